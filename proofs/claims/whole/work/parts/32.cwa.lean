set_option maxHeartbeats 4000000 in
set_option maxRecDepth 100000 in
theorem c_X6_shutBy {lch : Launch} {dG : va_G} {cyI cyZ cyO : ClassId} (kd : Nat) (b : Nat) (hkk : kd < 5) (hb : b < 4 ∨ b = 4294967287) : Ki lch yX6_shutBy cX6_shutBy 3 .int (rmk 1) dG (cyI, cyZ, cyO) [.int (nI kd), .int (nI b)] [] (fun r w1 => w1 = [] ∧ r = (nI (sbN kd b))) := by
  refine Ki.of (own := RX6) rfl (by decide) (Nat.le_of_ble_eq_true rfl) (fun p0 e0 s0 m0 ar0 be0 me0 cd0 A0 C hr hk hnm hA => ?_)
  refine j_lsub [(0, .int (nI kd)), (1, .int (nI b))] [0, 1] rfl ?_
  refine j_iload_n (pc' := 1) C dX6_shutBy_0 rfl 0 rfl ?_
  refine j_iconst (v := (nI 1)) (pc' := 2) C dX6_shutBy_1 rfl (by decide +kernel) ?_
  refine j_nc_gt (pc' := 5) C 14 dX6_shutBy_2 (by decide) rfl (by omega) (by omega) (fun c2 => ?_) (fun c2 => ?_)
  · refine j_ldc (v := 65535) (pc' := 16) C dX6_shutBy_14 rfl co_X6_54 ?_
    refine j_top (nI 65535) (by decide +kernel) ?_
    exact j_iret C hr hk hA dX6_shutBy_16 (rfl) (⟨rfl, by unfold sbN; rw [if_pos (by omega)]⟩)
  · refine j_iload_n (pc' := 6) C dX6_shutBy_5 rfl 1 rfl ?_
    refine j_if_lt (pc' := 9) C 14 dX6_shutBy_6 (by decide) rfl (fun c6 => ?_) (fun c6 => ?_)
    · have hb4 : ¬ b < 4 := fun q9 => absurd c6 (nI_pos (by omega))
      refine j_ldc (v := 65535) (pc' := 16) C dX6_shutBy_14 rfl co_X6_54 ?_
      refine j_top (nI 65535) (by decide +kernel) ?_
      exact j_iret C hr hk hA dX6_shutBy_16 (rfl) (⟨rfl, by unfold sbN; rw [if_pos (by omega)]⟩)
    · have hb4 : b < 4 := by rcases hb with q9 | q9; exact q9; exact absurd (by rw [q9]; decide +kernel) c6
      refine j_iload_n (pc' := 10) C dX6_shutBy_9 rfl 1 rfl ?_
      refine j_iconst (v := (nI 4)) (pc' := 11) C dX6_shutBy_10 rfl (by decide +kernel) ?_
      refine j_nc_lt (pc' := 14) C 17 dX6_shutBy_11 (by decide) rfl (by omega) (by omega) (fun c11 => ?_) (fun c11 => ?_)
      · obtain ⟨tS, hZS, hTS⟩ := C.2.2.2.2.2.2.2.tab
        refine j_gets (pc' := 20) C hZS dX6_shutBy_17 rfl ?_
        refine j_iload_n (pc' := 21) C dX6_shutBy_20 rfl 1 rfl ?_
        refine j_tald (pc' := 22) C hTS (by omega) dX6_shutBy_21 rfl ?_
        refine j_istore_n (pc' := 23) C [(2, .int (nI (sww b))), (0, .int (nI kd)), (1, .int (nI b))] dX6_shutBy_22 rfl (by decide) rfl ?_
        refine j_iload_n (pc' := 24) C dX6_shutBy_23 rfl 1 rfl ?_
        refine j_nz_ne (pc' := 27) C 31 dX6_shutBy_24 (by decide) rfl (by omega) (fun c24 => ?_) (fun c24 => ?_)
        · refine j_ldc (v := 65535) (pc' := 33) C dX6_shutBy_31 rfl co_X6_54 ?_
          refine j_top (nI 65535) (by decide +kernel) ?_
          refine j_iload_n (pc' := 34) C dX6_shutBy_33 rfl 0 rfl ?_
          refine j_iconst (v := (nI 4294967295)) (pc' := 35) C dX6_shutBy_34 rfl (by decide +kernel) ?_
          refine j_ixor (v := (nI ((sww b) ^^^ 4294967295))) (pc' := 36) C dX6_shutBy_35 rfl (fb_xorI (sww b) 4294967295) ?_
          refine j_iand (v := (nI (65535 &&& ((sww b) ^^^ 4294967295)))) (pc' := 37) C dX6_shutBy_36 rfl (fa_and 65535 ((sww b) ^^^ 4294967295)) ?_
          exact j_iret C hr hk hA dX6_shutBy_37 (rfl) (⟨rfl, by unfold sbN; rw [if_neg (by omega)]; first | rw [if_pos c24] | rw [if_neg c24]⟩)
        · refine j_iload_n (pc' := 28) C dX6_shutBy_27 rfl 0 rfl ?_
          refine j_goto C 37 dX6_shutBy_28 (by decide) ?_
          exact j_iret C hr hk hA dX6_shutBy_37 (rfl) (⟨rfl, by unfold sbN; rw [if_neg (by omega)]; first | rw [if_pos c24] | rw [if_neg c24]⟩)
      · refine j_ldc (v := 65535) (pc' := 16) C dX6_shutBy_14 rfl co_X6_54 ?_
        refine j_top (nI 65535) (by decide +kernel) ?_
        exact j_iret C hr hk hA dX6_shutBy_16 (rfl) (⟨rfl, by unfold sbN; rw [if_pos (by omega)]⟩)

set_option maxHeartbeats 4000000 in
set_option maxRecDepth 100000 in
theorem c_X6_layOne {lch : Launch} {dG : va_G} {cyI cyZ cyO : ClassId} (aW : Nat) (aSh : Nat) (aN : Nat) (aO : Nat) (aFo : Nat) (aBa : Nat) (aRc : Nat) (gr : Bool) (sh : Nat → Nat) (fo : Nat → Bool) (ba : Nat → Bool) (t : Nat → Nat) (aKd : Nat) (aFi : Nat) (aSe : Nat) (aSb : Nat) (aLd : Nat) (kd : Nat → Nat) (sb : Nat → Nat) (c : Nat) (cu : Nat) (cb : Nat) (sk : Nat) (hT : WT t) (hkd : ∀ c, c < t 1 → kd c = t (3 + c)) (hsb : ∀ c, c < t 1 → sb c = t (30 + c)) (hc : c < t 1) (hc2 : cu ≤ 4) (hc3 : cb < 4) (hc4 : sk < 3) : Kv lch yX6_layOne cX6_layOne 6 (rmk 2) dG (cyI, cyZ, cyO) [.ref aW, .int (nI c), .int (nI cu), .int (nI cb), .int (nI sk)] [(aW, .inr (6, [.ref aSh, .ref aN, .ref aO, .ref aFo, .ref aBa, .ref aRc, .int (bI gr)])), (aSh, .inl (cyI, 9, .inl (nA sh))), (aFo, .inl (cyZ, 9, .inl (bA fo))), (aBa, .inl (cyZ, 9, .inl (bA ba))), (aN, .inr (1, [.int (nI (t 0)), .int (nI (t 1)), .int (nI (t 2)), .ref aKd, .ref aFi, .ref aSe, .ref aSb, .ref aLd])), (aKd, .inl (cyI, 9, .inl (nA kd))), (aSb, .inl (cyI, 9, .inl (nA sb)))] (fun w1 => ∃ (sh1 : Nat → Nat), ∃ (fo1 : Nat → Bool), ∃ (ba1 : Nat → Bool), w1 = [(aW, .inr (6, [.ref aSh, .ref aN, .ref aO, .ref aFo, .ref aBa, .ref aRc, .int (bI gr)])), (aSh, .inl (cyI, 9, .inl (nA sh1))), (aFo, .inl (cyZ, 9, .inl (bA fo1))), (aBa, .inl (cyZ, 9, .inl (bA ba1))), (aN, .inr (1, [.int (nI (t 0)), .int (nI (t 1)), .int (nI (t 2)), .ref aKd, .ref aFi, .ref aSe, .ref aSb, .ref aLd])), (aKd, .inl (cyI, 9, .inl (nA kd))), (aSb, .inl (cyI, 9, .inl (nA sb)))] ∧ LD1 t c cu cb sk (sh1 c) (fo1 c) (ba1 c) ∧ ∀ c2, c2 ≠ c → sh1 c2 = sh c2 ∧ fo1 c2 = fo c2 ∧ ba1 c2 = ba c2) := by
  have h1 := hT.n
  have h2 := hT.c hc
  refine Kv.of (own := RX6) rfl (by decide) (Nat.le_of_ble_eq_true rfl) (fun p0 e0 s0 m0 ar0 be0 me0 cd0 A0 C hr hk hnm hA => ?_)
  refine j_lsub [(0, .ref aW), (1, .int (nI c)), (2, .int (nI cu)), (3, .int (nI cb)), (4, .int (nI sk))] [0, 1, 2, 3, 4] rfl ?_
  refine j_iload (pc' := 2) C dX6_layOne_0 rfl 4 rfl ?_
  refine j_nz_eq (pc' := 5) C 52 dX6_layOne_2 (by decide) rfl (by omega) (fun c2 => ?_) (fun c2 => ?_)
  · refine j_aload_n (pc' := 53) C dX6_layOne_52 rfl 0 rfl ?_
    refine j_get (v := .ref aSh) (pc' := 56) C KX6 0 0 rfl (by decide) fl_X6_9 rfl rfl dX6_layOne_53 rfl ?_
    refine j_iload_n (pc' := 57) C dX6_layOne_56 rfl 1 rfl ?_
    refine j_aload_n (pc' := 58) C dX6_layOne_57 rfl 0 rfl ?_
    refine j_get (v := .ref aN) (pc' := 61) C KX6 0 1 rfl (by decide) fl_X6_25 rfl rfl dX6_layOne_58 rfl ?_
    refine j_get (v := .ref aKd) (pc' := 64) C KX1 4 3 rfl (by decide) fl_X6_55 rfl rfl dX6_layOne_61 rfl ?_
    refine j_iload_n (pc' := 65) C dX6_layOne_64 rfl 1 rfl ?_
    refine j_nald (pc' := 66) C 5 rfl (by omega) (by decide) dX6_layOne_65 rfl ?_
    refine j_top (nI (t (3 + c))) (by rw [hkd c hc]) ?_
    refine j_aload_n (pc' := 67) C dX6_layOne_66 rfl 0 rfl ?_
    refine j_get (v := .ref aN) (pc' := 70) C KX6 0 1 rfl (by decide) fl_X6_25 rfl rfl dX6_layOne_67 rfl ?_
    refine j_get (v := .ref aSb) (pc' := 73) C KX1 4 6 rfl (by decide) fl_X6_58 rfl rfl dX6_layOne_70 rfl ?_
    refine j_iload_n (pc' := 74) C dX6_layOne_73 rfl 1 rfl ?_
    refine j_nald (pc' := 75) C 6 rfl (by omega) (by decide) dX6_layOne_74 rfl ?_
    refine j_top (nI (t (30 + c))) (by rw [hsb c hc]) ?_
    refine j_cSi (As := [.int (nI (t (3 + c))), .int (nI (t (30 + c)))]) (wr := [(aW, .inr (6, [.ref aSh, .ref aN, .ref aO, .ref aFo, .ref aBa, .ref aRc, .int (bI gr)])), (aSh, .inl (cyI, 9, .inl (nA sh))), (aFo, .inl (cyZ, 9, .inl (bA fo))), (aBa, .inl (cyZ, 9, .inl (bA ba))), (aN, .inr (1, [.int (nI (t 0)), .int (nI (t 1)), .int (nI (t 2)), .ref aKd, .ref aFi, .ref aSe, .ref aSb, .ref aLd])), (aKd, .inl (cyI, 9, .inl (nA kd))), (aSb, .inl (cyI, 9, .inl (nA sb)))]) (pc' := 78) C (c_X6_shutBy (kd := t (3 + c)) (b := t (30 + c)) (hkk := by omega) (hb := by rcases Nat.lt_or_ge (t (3 + c)) 2 with q9 | q9; exact Or.inl (h2.2.2.2.1 q9); exact Or.inr (h2.2.2.2.2 q9))) Y_X6_shutBy (ml_X6_61) [] [0, 1, 2, 3, 4, 5, 6] rfl rfl rfl rfl (by decide) dX6_layOne_75 rfl rfl rfl (Nat.le_of_ble_eq_true rfl) ⟨Nat.le_of_ble_eq_true rfl, Nat.le_of_ble_eq_true rfl⟩ ⟨Nat.le_of_ble_eq_true rfl, Nat.le_of_ble_eq_true rfl⟩ ⟨rfl, rfl⟩ (fun r1 w1 hQ => ?_)
    obtain ⟨rfl, rfl⟩ := hQ
    refine j_perm [(aW, .inr (6, [.ref aSh, .ref aN, .ref aO, .ref aFo, .ref aBa, .ref aRc, .int (bI gr)])), (aSh, .inl (cyI, 9, .inl (nA sh))), (aFo, .inl (cyZ, 9, .inl (bA fo))), (aBa, .inl (cyZ, 9, .inl (bA ba))), (aN, .inr (1, [.int (nI (t 0)), .int (nI (t 1)), .int (nI (t 2)), .ref aKd, .ref aFi, .ref aSe, .ref aSb, .ref aLd])), (aKd, .inl (cyI, 9, .inl (nA kd))), (aSb, .inl (cyI, 9, .inl (nA sb)))] [0, 1, 2, 3, 4, 5, 6] rfl rfl (by decide) ?_
    refine j_iload_n (pc' := 79) C dX6_layOne_78 rfl 2 rfl ?_
    refine j_iload_n (pc' := 80) C dX6_layOne_79 rfl 3 rfl ?_
    refine j_cSi (As := [.int (nI cu), .int (nI cb)]) (wr := [(aW, .inr (6, [.ref aSh, .ref aN, .ref aO, .ref aFo, .ref aBa, .ref aRc, .int (bI gr)])), (aSh, .inl (cyI, 9, .inl (nA sh))), (aFo, .inl (cyZ, 9, .inl (bA fo))), (aBa, .inl (cyZ, 9, .inl (bA ba))), (aN, .inr (1, [.int (nI (t 0)), .int (nI (t 1)), .int (nI (t 2)), .ref aKd, .ref aFi, .ref aSe, .ref aSb, .ref aLd])), (aKd, .inl (cyI, 9, .inl (nA kd))), (aSb, .inl (cyI, 9, .inl (nA sb)))]) (pc' := 83) C (c_X6_shutBy (kd := cu) (b := cb) (hkk := by omega) (hb := Or.inl hc3)) Y_X6_shutBy (ml_X6_61) [] [0, 1, 2, 3, 4, 5, 6] rfl rfl rfl rfl (by decide) dX6_layOne_80 rfl rfl rfl (Nat.le_of_ble_eq_true rfl) ⟨Nat.le_of_ble_eq_true rfl, Nat.le_of_ble_eq_true rfl⟩ ⟨Nat.le_of_ble_eq_true rfl, Nat.le_of_ble_eq_true rfl⟩ ⟨rfl, rfl⟩ (fun r2 w1 hQ => ?_)
    obtain ⟨rfl, rfl⟩ := hQ
    refine j_perm [(aW, .inr (6, [.ref aSh, .ref aN, .ref aO, .ref aFo, .ref aBa, .ref aRc, .int (bI gr)])), (aSh, .inl (cyI, 9, .inl (nA sh))), (aFo, .inl (cyZ, 9, .inl (bA fo))), (aBa, .inl (cyZ, 9, .inl (bA ba))), (aN, .inr (1, [.int (nI (t 0)), .int (nI (t 1)), .int (nI (t 2)), .ref aKd, .ref aFi, .ref aSe, .ref aSb, .ref aLd])), (aKd, .inl (cyI, 9, .inl (nA kd))), (aSb, .inl (cyI, 9, .inl (nA sb)))] [0, 1, 2, 3, 4, 5, 6] rfl rfl (by decide) ?_
    refine j_iand (v := (nI ((sbN (t (3 + c)) (t (30 + c))) &&& (sbN cu cb)))) (pc' := 84) C dX6_layOne_83 rfl (fa_and (sbN (t (3 + c)) (t (30 + c))) (sbN cu cb)) ?_
    refine j_nast (pc' := 85) C [(aW, .inr (6, [.ref aSh, .ref aN, .ref aO, .ref aFo, .ref aBa, .ref aRc, .int (bI gr)])), (aSh, .inl (cyI, 9, .inl (nA (uN sh c ((sbN (t (3 + c)) (t (30 + c))) &&& (sbN cu cb)))))), (aFo, .inl (cyZ, 9, .inl (bA fo))), (aBa, .inl (cyZ, 9, .inl (bA ba))), (aN, .inr (1, [.int (nI (t 0)), .int (nI (t 1)), .int (nI (t 2)), .ref aKd, .ref aFi, .ref aSe, .ref aSb, .ref aLd])), (aKd, .inl (cyI, 9, .inl (nA kd))), (aSb, .inl (cyI, 9, .inl (nA sb)))] 1 rfl (by omega) (by decide) dX6_layOne_84 rfl rfl ?_
    refine j_aload_n (pc' := 86) C dX6_layOne_85 rfl 0 rfl ?_
    refine j_get (v := .ref aFo) (pc' := 89) C KX6 0 3 rfl (by decide) fl_X6_15 rfl rfl dX6_layOne_86 rfl ?_
    refine j_iload_n (pc' := 90) C dX6_layOne_89 rfl 1 rfl ?_
    refine j_iload_n (pc' := 91) C dX6_layOne_90 rfl 2 rfl ?_
    refine j_iconst (v := (nI 3)) (pc' := 92) C dX6_layOne_91 rfl (by decide +kernel) ?_
    refine j_nc_eq (pc' := 95) C 99 dX6_layOne_92 (by decide) rfl (by omega) (by omega) (fun c92 => ?_) (fun c92 => ?_)
    · refine j_iconst (v := (nI 0)) (pc' := 100) C dX6_layOne_99 rfl (by decide +kernel) ?_
      refine j_top (bI false) (by decide +kernel) ?_
      refine j_zast (pc' := 101) C [(aW, .inr (6, [.ref aSh, .ref aN, .ref aO, .ref aFo, .ref aBa, .ref aRc, .int (bI gr)])), (aSh, .inl (cyI, 9, .inl (nA (uN sh c ((sbN (t (3 + c)) (t (30 + c))) &&& (sbN cu cb)))))), (aFo, .inl (cyZ, 9, .inl (bA (uB fo c false)))), (aBa, .inl (cyZ, 9, .inl (bA ba))), (aN, .inr (1, [.int (nI (t 0)), .int (nI (t 1)), .int (nI (t 2)), .ref aKd, .ref aFi, .ref aSe, .ref aSb, .ref aLd])), (aKd, .inl (cyI, 9, .inl (nA kd))), (aSb, .inl (cyI, 9, .inl (nA sb)))] 2 rfl (by omega) (by decide) dX6_layOne_100 rfl rfl ?_
      refine j_aload_n (pc' := 102) C dX6_layOne_101 rfl 0 rfl ?_
      refine j_get (v := .ref aBa) (pc' := 105) C KX6 0 4 rfl (by decide) fl_X6_19 rfl rfl dX6_layOne_102 rfl ?_
      refine j_iload_n (pc' := 106) C dX6_layOne_105 rfl 1 rfl ?_
      refine j_iload_n (pc' := 107) C dX6_layOne_106 rfl 2 rfl ?_
      refine j_iconst (v := (nI 2)) (pc' := 108) C dX6_layOne_107 rfl (by decide +kernel) ?_
      refine j_nc_eq (pc' := 111) C 128 dX6_layOne_108 (by decide) rfl (by omega) (by omega) (fun c108 => ?_) (fun c108 => ?_)
      · refine j_iconst (v := (nI 0)) (pc' := 129) C dX6_layOne_128 rfl (by decide +kernel) ?_
        refine j_top (bI false) (by decide +kernel) ?_
        refine j_zast (pc' := 130) C [(aW, .inr (6, [.ref aSh, .ref aN, .ref aO, .ref aFo, .ref aBa, .ref aRc, .int (bI gr)])), (aSh, .inl (cyI, 9, .inl (nA (uN sh c ((sbN (t (3 + c)) (t (30 + c))) &&& (sbN cu cb)))))), (aFo, .inl (cyZ, 9, .inl (bA (uB fo c false)))), (aBa, .inl (cyZ, 9, .inl (bA (uB ba c false)))), (aN, .inr (1, [.int (nI (t 0)), .int (nI (t 1)), .int (nI (t 2)), .ref aKd, .ref aFi, .ref aSe, .ref aSb, .ref aLd])), (aKd, .inl (cyI, 9, .inl (nA kd))), (aSb, .inl (cyI, 9, .inl (nA sb)))] 3 rfl (by omega) (by decide) dX6_layOne_129 rfl rfl ?_
        exact j_vret C hr hk hA dX6_layOne_130 (⟨_, _, _, rfl, ⟨by rw [uN_s]; exact Nat.lt_of_le_of_lt Nat.and_le_left (sbN_lt _ _), fun st9 hst9 => by rw [uN_s, Nat.testBit_and, sbN_k hT hc hst9, sbN_c hc3 hst9]; unfold shV; rw [if_pos c2], by rw [uB_s]; unfold wyV; rw [if_pos c2]; simp_all, by rw [uB_s]; unfold wyV; rw [if_pos c2]; simp_all⟩, fun c2 hc2 => ⟨uN_n hc2, uB_n hc2, uB_n hc2⟩⟩)
      · refine j_aload_n (pc' := 112) C dX6_layOne_111 rfl 0 rfl ?_
        refine j_get (v := .ref aN) (pc' := 115) C KX6 0 1 rfl (by decide) fl_X6_25 rfl rfl dX6_layOne_112 rfl ?_
        refine j_get (v := .ref aKd) (pc' := 118) C KX1 4 3 rfl (by decide) fl_X6_55 rfl rfl dX6_layOne_115 rfl ?_
        refine j_iload_n (pc' := 119) C dX6_layOne_118 rfl 1 rfl ?_
        refine j_nald (pc' := 120) C 5 rfl (by omega) (by decide) dX6_layOne_119 rfl ?_
        refine j_top (nI (t (3 + c))) (by rw [hkd c hc]) ?_
        refine j_iconst (v := (nI 3)) (pc' := 121) C dX6_layOne_120 rfl (by decide +kernel) ?_
        refine j_nc_eq (pc' := 124) C 128 dX6_layOne_121 (by decide) rfl (by omega) (by omega) (fun c121 => ?_) (fun c121 => ?_)
        · refine j_iconst (v := (nI 0)) (pc' := 129) C dX6_layOne_128 rfl (by decide +kernel) ?_
          refine j_top (bI false) (by decide +kernel) ?_
          refine j_zast (pc' := 130) C [(aW, .inr (6, [.ref aSh, .ref aN, .ref aO, .ref aFo, .ref aBa, .ref aRc, .int (bI gr)])), (aSh, .inl (cyI, 9, .inl (nA (uN sh c ((sbN (t (3 + c)) (t (30 + c))) &&& (sbN cu cb)))))), (aFo, .inl (cyZ, 9, .inl (bA (uB fo c false)))), (aBa, .inl (cyZ, 9, .inl (bA (uB ba c false)))), (aN, .inr (1, [.int (nI (t 0)), .int (nI (t 1)), .int (nI (t 2)), .ref aKd, .ref aFi, .ref aSe, .ref aSb, .ref aLd])), (aKd, .inl (cyI, 9, .inl (nA kd))), (aSb, .inl (cyI, 9, .inl (nA sb)))] 3 rfl (by omega) (by decide) dX6_layOne_129 rfl rfl ?_
          exact j_vret C hr hk hA dX6_layOne_130 (⟨_, _, _, rfl, ⟨by rw [uN_s]; exact Nat.lt_of_le_of_lt Nat.and_le_left (sbN_lt _ _), fun st9 hst9 => by rw [uN_s, Nat.testBit_and, sbN_k hT hc hst9, sbN_c hc3 hst9]; unfold shV; rw [if_pos c2], by rw [uB_s]; unfold wyV; rw [if_pos c2]; simp_all, by rw [uB_s]; unfold wyV; rw [if_pos c2]; simp_all⟩, fun c2 hc2 => ⟨uN_n hc2, uB_n hc2, uB_n hc2⟩⟩)
        · refine j_iconst (v := (nI 1)) (pc' := 125) C dX6_layOne_124 rfl (by decide +kernel) ?_
          refine j_goto C 129 dX6_layOne_125 (by decide) ?_
          refine j_top (bI true) (by decide +kernel) ?_
          refine j_zast (pc' := 130) C [(aW, .inr (6, [.ref aSh, .ref aN, .ref aO, .ref aFo, .ref aBa, .ref aRc, .int (bI gr)])), (aSh, .inl (cyI, 9, .inl (nA (uN sh c ((sbN (t (3 + c)) (t (30 + c))) &&& (sbN cu cb)))))), (aFo, .inl (cyZ, 9, .inl (bA (uB fo c false)))), (aBa, .inl (cyZ, 9, .inl (bA (uB ba c true)))), (aN, .inr (1, [.int (nI (t 0)), .int (nI (t 1)), .int (nI (t 2)), .ref aKd, .ref aFi, .ref aSe, .ref aSb, .ref aLd])), (aKd, .inl (cyI, 9, .inl (nA kd))), (aSb, .inl (cyI, 9, .inl (nA sb)))] 3 rfl (by omega) (by decide) dX6_layOne_129 rfl rfl ?_
          exact j_vret C hr hk hA dX6_layOne_130 (⟨_, _, _, rfl, ⟨by rw [uN_s]; exact Nat.lt_of_le_of_lt Nat.and_le_left (sbN_lt _ _), fun st9 hst9 => by rw [uN_s, Nat.testBit_and, sbN_k hT hc hst9, sbN_c hc3 hst9]; unfold shV; rw [if_pos c2], by rw [uB_s]; unfold wyV; rw [if_pos c2]; simp_all, by rw [uB_s]; unfold wyV; rw [if_pos c2]; simp_all⟩, fun c2 hc2 => ⟨uN_n hc2, uB_n hc2, uB_n hc2⟩⟩)
    · refine j_iconst (v := (nI 1)) (pc' := 96) C dX6_layOne_95 rfl (by decide +kernel) ?_
      refine j_goto C 100 dX6_layOne_96 (by decide) ?_
      refine j_top (bI true) (by decide +kernel) ?_
      refine j_zast (pc' := 101) C [(aW, .inr (6, [.ref aSh, .ref aN, .ref aO, .ref aFo, .ref aBa, .ref aRc, .int (bI gr)])), (aSh, .inl (cyI, 9, .inl (nA (uN sh c ((sbN (t (3 + c)) (t (30 + c))) &&& (sbN cu cb)))))), (aFo, .inl (cyZ, 9, .inl (bA (uB fo c true)))), (aBa, .inl (cyZ, 9, .inl (bA ba))), (aN, .inr (1, [.int (nI (t 0)), .int (nI (t 1)), .int (nI (t 2)), .ref aKd, .ref aFi, .ref aSe, .ref aSb, .ref aLd])), (aKd, .inl (cyI, 9, .inl (nA kd))), (aSb, .inl (cyI, 9, .inl (nA sb)))] 2 rfl (by omega) (by decide) dX6_layOne_100 rfl rfl ?_
      refine j_aload_n (pc' := 102) C dX6_layOne_101 rfl 0 rfl ?_
      refine j_get (v := .ref aBa) (pc' := 105) C KX6 0 4 rfl (by decide) fl_X6_19 rfl rfl dX6_layOne_102 rfl ?_
      refine j_iload_n (pc' := 106) C dX6_layOne_105 rfl 1 rfl ?_
      refine j_iload_n (pc' := 107) C dX6_layOne_106 rfl 2 rfl ?_
      refine j_iconst (v := (nI 2)) (pc' := 108) C dX6_layOne_107 rfl (by decide +kernel) ?_
      refine j_nc_eq (pc' := 111) C 128 dX6_layOne_108 (by decide) rfl (by omega) (by omega) (fun c108 => ?_) (fun c108 => ?_)
      · refine j_iconst (v := (nI 0)) (pc' := 129) C dX6_layOne_128 rfl (by decide +kernel) ?_
        refine j_top (bI false) (by decide +kernel) ?_
        refine j_zast (pc' := 130) C [(aW, .inr (6, [.ref aSh, .ref aN, .ref aO, .ref aFo, .ref aBa, .ref aRc, .int (bI gr)])), (aSh, .inl (cyI, 9, .inl (nA (uN sh c ((sbN (t (3 + c)) (t (30 + c))) &&& (sbN cu cb)))))), (aFo, .inl (cyZ, 9, .inl (bA (uB fo c true)))), (aBa, .inl (cyZ, 9, .inl (bA (uB ba c false)))), (aN, .inr (1, [.int (nI (t 0)), .int (nI (t 1)), .int (nI (t 2)), .ref aKd, .ref aFi, .ref aSe, .ref aSb, .ref aLd])), (aKd, .inl (cyI, 9, .inl (nA kd))), (aSb, .inl (cyI, 9, .inl (nA sb)))] 3 rfl (by omega) (by decide) dX6_layOne_129 rfl rfl ?_
        exact j_vret C hr hk hA dX6_layOne_130 (⟨_, _, _, rfl, ⟨by rw [uN_s]; exact Nat.lt_of_le_of_lt Nat.and_le_left (sbN_lt _ _), fun st9 hst9 => by rw [uN_s, Nat.testBit_and, sbN_k hT hc hst9, sbN_c hc3 hst9]; unfold shV; rw [if_pos c2], by rw [uB_s]; unfold wyV; rw [if_pos c2]; simp_all, by rw [uB_s]; unfold wyV; rw [if_pos c2]; simp_all⟩, fun c2 hc2 => ⟨uN_n hc2, uB_n hc2, uB_n hc2⟩⟩)
      · refine j_aload_n (pc' := 112) C dX6_layOne_111 rfl 0 rfl ?_
        refine j_get (v := .ref aN) (pc' := 115) C KX6 0 1 rfl (by decide) fl_X6_25 rfl rfl dX6_layOne_112 rfl ?_
        refine j_get (v := .ref aKd) (pc' := 118) C KX1 4 3 rfl (by decide) fl_X6_55 rfl rfl dX6_layOne_115 rfl ?_
        refine j_iload_n (pc' := 119) C dX6_layOne_118 rfl 1 rfl ?_
        refine j_nald (pc' := 120) C 5 rfl (by omega) (by decide) dX6_layOne_119 rfl ?_
        refine j_top (nI (t (3 + c))) (by rw [hkd c hc]) ?_
        refine j_iconst (v := (nI 3)) (pc' := 121) C dX6_layOne_120 rfl (by decide +kernel) ?_
        refine j_nc_eq (pc' := 124) C 128 dX6_layOne_121 (by decide) rfl (by omega) (by omega) (fun c121 => ?_) (fun c121 => ?_)
        · refine j_iconst (v := (nI 0)) (pc' := 129) C dX6_layOne_128 rfl (by decide +kernel) ?_
          refine j_top (bI false) (by decide +kernel) ?_
          refine j_zast (pc' := 130) C [(aW, .inr (6, [.ref aSh, .ref aN, .ref aO, .ref aFo, .ref aBa, .ref aRc, .int (bI gr)])), (aSh, .inl (cyI, 9, .inl (nA (uN sh c ((sbN (t (3 + c)) (t (30 + c))) &&& (sbN cu cb)))))), (aFo, .inl (cyZ, 9, .inl (bA (uB fo c true)))), (aBa, .inl (cyZ, 9, .inl (bA (uB ba c false)))), (aN, .inr (1, [.int (nI (t 0)), .int (nI (t 1)), .int (nI (t 2)), .ref aKd, .ref aFi, .ref aSe, .ref aSb, .ref aLd])), (aKd, .inl (cyI, 9, .inl (nA kd))), (aSb, .inl (cyI, 9, .inl (nA sb)))] 3 rfl (by omega) (by decide) dX6_layOne_129 rfl rfl ?_
          exact j_vret C hr hk hA dX6_layOne_130 (⟨_, _, _, rfl, ⟨by rw [uN_s]; exact Nat.lt_of_le_of_lt Nat.and_le_left (sbN_lt _ _), fun st9 hst9 => by rw [uN_s, Nat.testBit_and, sbN_k hT hc hst9, sbN_c hc3 hst9]; unfold shV; rw [if_pos c2], by rw [uB_s]; unfold wyV; rw [if_pos c2]; simp_all, by rw [uB_s]; unfold wyV; rw [if_pos c2]; simp_all⟩, fun c2 hc2 => ⟨uN_n hc2, uB_n hc2, uB_n hc2⟩⟩)
        · refine j_iconst (v := (nI 1)) (pc' := 125) C dX6_layOne_124 rfl (by decide +kernel) ?_
          refine j_goto C 129 dX6_layOne_125 (by decide) ?_
          refine j_top (bI true) (by decide +kernel) ?_
          refine j_zast (pc' := 130) C [(aW, .inr (6, [.ref aSh, .ref aN, .ref aO, .ref aFo, .ref aBa, .ref aRc, .int (bI gr)])), (aSh, .inl (cyI, 9, .inl (nA (uN sh c ((sbN (t (3 + c)) (t (30 + c))) &&& (sbN cu cb)))))), (aFo, .inl (cyZ, 9, .inl (bA (uB fo c true)))), (aBa, .inl (cyZ, 9, .inl (bA (uB ba c true)))), (aN, .inr (1, [.int (nI (t 0)), .int (nI (t 1)), .int (nI (t 2)), .ref aKd, .ref aFi, .ref aSe, .ref aSb, .ref aLd])), (aKd, .inl (cyI, 9, .inl (nA kd))), (aSb, .inl (cyI, 9, .inl (nA sb)))] 3 rfl (by omega) (by decide) dX6_layOne_129 rfl rfl ?_
          exact j_vret C hr hk hA dX6_layOne_130 (⟨_, _, _, rfl, ⟨by rw [uN_s]; exact Nat.lt_of_le_of_lt Nat.and_le_left (sbN_lt _ _), fun st9 hst9 => by rw [uN_s, Nat.testBit_and, sbN_k hT hc hst9, sbN_c hc3 hst9]; unfold shV; rw [if_pos c2], by rw [uB_s]; unfold wyV; rw [if_pos c2]; simp_all, by rw [uB_s]; unfold wyV; rw [if_pos c2]; simp_all⟩, fun c2 hc2 => ⟨uN_n hc2, uB_n hc2, uB_n hc2⟩⟩)
  · have h4 : ¬ sk = 0 := c2
    refine j_iload (pc' := 7) C dX6_layOne_5 rfl 4 rfl ?_
    refine j_iconst (v := (nI 2)) (pc' := 8) C dX6_layOne_7 rfl (by decide +kernel) ?_
    refine j_nc_ne (pc' := 11) C 15 dX6_layOne_8 (by decide) rfl (by omega) (by omega) (fun c8 => ?_) (fun c8 => ?_)
    · refine j_iconst (v := (nI 0)) (pc' := 16) C dX6_layOne_15 rfl (by decide +kernel) ?_
      refine j_istore (pc' := 18) C [(5, .int (nI 0)), (0, .ref aW), (1, .int (nI c)), (2, .int (nI cu)), (3, .int (nI cb)), (4, .int (nI sk))] dX6_layOne_16 rfl (by decide) rfl ?_
      refine j_aload_n (pc' := 19) C dX6_layOne_18 rfl 1 rfl ?_
      refine j_get (v := .ref aSh) (pc' := 22) C KX6 0 0 rfl (by decide) fl_X6_9 rfl rfl dX6_layOne_19 rfl ?_
      refine j_iload_n (pc' := 23) C dX6_layOne_22 rfl 2 rfl ?_
      refine j_iload (pc' := 25) C dX6_layOne_23 rfl 0 rfl ?_
      refine j_nz_eq (pc' := 28) C 33 dX6_layOne_25 (by decide) rfl (by omega) (fun c25 => ?_) (fun c25 => ?_)
      · refine j_iconst (v := (nI 0)) (pc' := 34) C dX6_layOne_33 rfl (by decide +kernel) ?_
        refine j_nast (pc' := 35) C [(aW, .inr (6, [.ref aSh, .ref aN, .ref aO, .ref aFo, .ref aBa, .ref aRc, .int (bI gr)])), (aSh, .inl (cyI, 9, .inl (nA (uN sh c 0)))), (aFo, .inl (cyZ, 9, .inl (bA fo))), (aBa, .inl (cyZ, 9, .inl (bA ba))), (aN, .inr (1, [.int (nI (t 0)), .int (nI (t 1)), .int (nI (t 2)), .ref aKd, .ref aFi, .ref aSe, .ref aSb, .ref aLd])), (aKd, .inl (cyI, 9, .inl (nA kd))), (aSb, .inl (cyI, 9, .inl (nA sb)))] 1 rfl (by omega) (by decide) dX6_layOne_34 rfl rfl ?_
        refine j_aload_n (pc' := 36) C dX6_layOne_35 rfl 1 rfl ?_
        refine j_get (v := .ref aFo) (pc' := 39) C KX6 0 3 rfl (by decide) fl_X6_15 rfl rfl dX6_layOne_36 rfl ?_
        refine j_iload_n (pc' := 40) C dX6_layOne_39 rfl 2 rfl ?_
        refine j_iload (pc' := 42) C dX6_layOne_40 rfl 0 rfl ?_
        refine j_top (bI false) (by decide +kernel) ?_
        refine j_zast (pc' := 43) C [(aW, .inr (6, [.ref aSh, .ref aN, .ref aO, .ref aFo, .ref aBa, .ref aRc, .int (bI gr)])), (aSh, .inl (cyI, 9, .inl (nA (uN sh c 0)))), (aFo, .inl (cyZ, 9, .inl (bA (uB fo c false)))), (aBa, .inl (cyZ, 9, .inl (bA ba))), (aN, .inr (1, [.int (nI (t 0)), .int (nI (t 1)), .int (nI (t 2)), .ref aKd, .ref aFi, .ref aSe, .ref aSb, .ref aLd])), (aKd, .inl (cyI, 9, .inl (nA kd))), (aSb, .inl (cyI, 9, .inl (nA sb)))] 2 rfl (by omega) (by decide) dX6_layOne_42 rfl rfl ?_
        refine j_aload_n (pc' := 44) C dX6_layOne_43 rfl 1 rfl ?_
        refine j_get (v := .ref aBa) (pc' := 47) C KX6 0 4 rfl (by decide) fl_X6_19 rfl rfl dX6_layOne_44 rfl ?_
        refine j_iload_n (pc' := 48) C dX6_layOne_47 rfl 2 rfl ?_
        refine j_iload (pc' := 50) C dX6_layOne_48 rfl 0 rfl ?_
        refine j_top (bI false) (by decide +kernel) ?_
        refine j_zast (pc' := 51) C [(aW, .inr (6, [.ref aSh, .ref aN, .ref aO, .ref aFo, .ref aBa, .ref aRc, .int (bI gr)])), (aSh, .inl (cyI, 9, .inl (nA (uN sh c 0)))), (aFo, .inl (cyZ, 9, .inl (bA (uB fo c false)))), (aBa, .inl (cyZ, 9, .inl (bA (uB ba c false)))), (aN, .inr (1, [.int (nI (t 0)), .int (nI (t 1)), .int (nI (t 2)), .ref aKd, .ref aFi, .ref aSe, .ref aSb, .ref aLd])), (aKd, .inl (cyI, 9, .inl (nA kd))), (aSb, .inl (cyI, 9, .inl (nA sb)))] 3 rfl (by omega) (by decide) dX6_layOne_50 rfl rfl ?_
        exact j_vret C hr hk hA dX6_layOne_51 (⟨_, _, _, rfl, ⟨by rw [uN_s]; decide, fun st9 hst9 => by rw [uN_s]; unfold shV; rw [if_neg h4]; first | rw [decide_eq_true c8, sb2 _ hst9] | rw [decide_eq_false c8, Nat.zero_testBit], by rw [uB_s]; unfold wyV; rw [if_neg h4]; first | rw [decide_eq_true c8] | rw [decide_eq_false c8], by rw [uB_s]; unfold wyV; rw [if_neg h4]; first | rw [decide_eq_true c8] | rw [decide_eq_false c8]⟩, fun c2 hc2 => ⟨uN_n hc2, uB_n hc2, uB_n hc2⟩⟩)
      · exact absurd c25 (by decide)
    · refine j_iconst (v := (nI 1)) (pc' := 12) C dX6_layOne_11 rfl (by decide +kernel) ?_
      refine j_goto C 16 dX6_layOne_12 (by decide) ?_
      refine j_istore (pc' := 18) C [(5, .int (nI 1)), (0, .ref aW), (1, .int (nI c)), (2, .int (nI cu)), (3, .int (nI cb)), (4, .int (nI sk))] dX6_layOne_16 rfl (by decide) rfl ?_
      refine j_aload_n (pc' := 19) C dX6_layOne_18 rfl 1 rfl ?_
      refine j_get (v := .ref aSh) (pc' := 22) C KX6 0 0 rfl (by decide) fl_X6_9 rfl rfl dX6_layOne_19 rfl ?_
      refine j_iload_n (pc' := 23) C dX6_layOne_22 rfl 2 rfl ?_
      refine j_iload (pc' := 25) C dX6_layOne_23 rfl 0 rfl ?_
      refine j_nz_eq (pc' := 28) C 33 dX6_layOne_25 (by decide) rfl (by omega) (fun c25 => ?_) (fun c25 => ?_)
      · exact absurd c25 (by decide)
      · refine j_ldc (v := 65535) (pc' := 30) C dX6_layOne_28 rfl co_X6_54 ?_
        refine j_top (nI 65535) (by decide +kernel) ?_
        refine j_goto C 34 dX6_layOne_30 (by decide) ?_
        refine j_nast (pc' := 35) C [(aW, .inr (6, [.ref aSh, .ref aN, .ref aO, .ref aFo, .ref aBa, .ref aRc, .int (bI gr)])), (aSh, .inl (cyI, 9, .inl (nA (uN sh c 65535)))), (aFo, .inl (cyZ, 9, .inl (bA fo))), (aBa, .inl (cyZ, 9, .inl (bA ba))), (aN, .inr (1, [.int (nI (t 0)), .int (nI (t 1)), .int (nI (t 2)), .ref aKd, .ref aFi, .ref aSe, .ref aSb, .ref aLd])), (aKd, .inl (cyI, 9, .inl (nA kd))), (aSb, .inl (cyI, 9, .inl (nA sb)))] 1 rfl (by omega) (by decide) dX6_layOne_34 rfl rfl ?_
        refine j_aload_n (pc' := 36) C dX6_layOne_35 rfl 1 rfl ?_
        refine j_get (v := .ref aFo) (pc' := 39) C KX6 0 3 rfl (by decide) fl_X6_15 rfl rfl dX6_layOne_36 rfl ?_
        refine j_iload_n (pc' := 40) C dX6_layOne_39 rfl 2 rfl ?_
        refine j_iload (pc' := 42) C dX6_layOne_40 rfl 0 rfl ?_
        refine j_top (bI true) (by decide +kernel) ?_
        refine j_zast (pc' := 43) C [(aW, .inr (6, [.ref aSh, .ref aN, .ref aO, .ref aFo, .ref aBa, .ref aRc, .int (bI gr)])), (aSh, .inl (cyI, 9, .inl (nA (uN sh c 65535)))), (aFo, .inl (cyZ, 9, .inl (bA (uB fo c true)))), (aBa, .inl (cyZ, 9, .inl (bA ba))), (aN, .inr (1, [.int (nI (t 0)), .int (nI (t 1)), .int (nI (t 2)), .ref aKd, .ref aFi, .ref aSe, .ref aSb, .ref aLd])), (aKd, .inl (cyI, 9, .inl (nA kd))), (aSb, .inl (cyI, 9, .inl (nA sb)))] 2 rfl (by omega) (by decide) dX6_layOne_42 rfl rfl ?_
        refine j_aload_n (pc' := 44) C dX6_layOne_43 rfl 1 rfl ?_
        refine j_get (v := .ref aBa) (pc' := 47) C KX6 0 4 rfl (by decide) fl_X6_19 rfl rfl dX6_layOne_44 rfl ?_
        refine j_iload_n (pc' := 48) C dX6_layOne_47 rfl 2 rfl ?_
        refine j_iload (pc' := 50) C dX6_layOne_48 rfl 0 rfl ?_
        refine j_top (bI true) (by decide +kernel) ?_
        refine j_zast (pc' := 51) C [(aW, .inr (6, [.ref aSh, .ref aN, .ref aO, .ref aFo, .ref aBa, .ref aRc, .int (bI gr)])), (aSh, .inl (cyI, 9, .inl (nA (uN sh c 65535)))), (aFo, .inl (cyZ, 9, .inl (bA (uB fo c true)))), (aBa, .inl (cyZ, 9, .inl (bA (uB ba c true)))), (aN, .inr (1, [.int (nI (t 0)), .int (nI (t 1)), .int (nI (t 2)), .ref aKd, .ref aFi, .ref aSe, .ref aSb, .ref aLd])), (aKd, .inl (cyI, 9, .inl (nA kd))), (aSb, .inl (cyI, 9, .inl (nA sb)))] 3 rfl (by omega) (by decide) dX6_layOne_50 rfl rfl ?_
        exact j_vret C hr hk hA dX6_layOne_51 (⟨_, _, _, rfl, ⟨by rw [uN_s]; decide, fun st9 hst9 => by rw [uN_s]; unfold shV; rw [if_neg h4]; first | rw [decide_eq_true c8, sb2 _ hst9] | rw [decide_eq_false c8, Nat.zero_testBit], by rw [uB_s]; unfold wyV; rw [if_neg h4]; first | rw [decide_eq_true c8] | rw [decide_eq_false c8], by rw [uB_s]; unfold wyV; rw [if_neg h4]; first | rw [decide_eq_true c8] | rw [decide_eq_false c8]⟩, fun c2 hc2 => ⟨uN_n hc2, uB_n hc2, uB_n hc2⟩⟩)

set_option maxHeartbeats 4000000 in
set_option maxRecDepth 100000 in
theorem c_X6_layAll {lch : Launch} {dG : va_G} {cyI cyZ cyO : ClassId} (aW : Nat) (aSh : Nat) (aN : Nat) (aO : Nat) (aFo : Nat) (aBa : Nat) (aRc : Nat) (gr : Bool) (sh : Nat → Nat) (fo : Nat → Bool) (ba : Nat → Bool) (t : Nat → Nat) (aKd : Nat) (aFi : Nat) (aSe : Nat) (aSb : Nat) (aLd : Nat) (kd : Nat → Nat) (sb : Nat → Nat) (aWi : Nat) (aCu : Nat) (aCb : Nat) (aSk : Nat) (cu : Nat → Nat) (cb : Nat → Nat) (sk : Nat → Nat) (s : Nat → Nat) (hT : WT t) (hS : WS s) (hkd : ∀ c, c < t 1 → kd c = t (3 + c)) (hsb : ∀ c, c < t 1 → sb c = t (30 + c)) (hcu : ∀ c, c < 9 → cu c = s (3 + c)) (hcb : ∀ c, c < 9 → cb c = s (12 + c)) (hsk : ∀ c, c < 9 → sk c = s (21 + c)) : Kv lch yX6_layAll cX6_layAll 2 (rmk 3) dG (cyI, cyZ, cyO) [.ref aW] [(aW, .inr (6, [.ref aSh, .ref aN, .ref aO, .ref aFo, .ref aBa, .ref aRc, .int (bI gr)])), (aSh, .inl (cyI, 9, .inl (nA sh))), (aFo, .inl (cyZ, 9, .inl (bA fo))), (aBa, .inl (cyZ, 9, .inl (bA ba))), (aN, .inr (1, [.int (nI (t 0)), .int (nI (t 1)), .int (nI (t 2)), .ref aKd, .ref aFi, .ref aSe, .ref aSb, .ref aLd])), (aKd, .inl (cyI, 9, .inl (nA kd))), (aSb, .inl (cyI, 9, .inl (nA sb))), (aO, .inr (4, [.ref aWi, .ref aCu, .ref aCb, .ref aSk])), (aCu, .inl (cyI, 9, .inl (nA cu))), (aCb, .inl (cyI, 9, .inl (nA cb))), (aSk, .inl (cyI, 9, .inl (nA sk)))] (fun w1 => ∃ (sh1 : Nat → Nat), ∃ (fo1 : Nat → Bool), ∃ (ba1 : Nat → Bool), w1 = [(aW, .inr (6, [.ref aSh, .ref aN, .ref aO, .ref aFo, .ref aBa, .ref aRc, .int (bI gr)])), (aSh, .inl (cyI, 9, .inl (nA sh1))), (aFo, .inl (cyZ, 9, .inl (bA fo1))), (aBa, .inl (cyZ, 9, .inl (bA ba1))), (aN, .inr (1, [.int (nI (t 0)), .int (nI (t 1)), .int (nI (t 2)), .ref aKd, .ref aFi, .ref aSe, .ref aSb, .ref aLd])), (aKd, .inl (cyI, 9, .inl (nA kd))), (aSb, .inl (cyI, 9, .inl (nA sb))), (aO, .inr (4, [.ref aWi, .ref aCu, .ref aCb, .ref aSk])), (aCu, .inl (cyI, 9, .inl (nA cu))), (aCb, .inl (cyI, 9, .inl (nA cb))), (aSk, .inl (cyI, 9, .inl (nA sk)))] ∧ LDn t s sh1 fo1 ba1 (t 1)) := by
  have h1 := hT.n
  refine Kv.of (own := RX6) rfl (by decide) (Nat.le_of_ble_eq_true rfl) (fun p0 e0 s0 m0 ar0 be0 me0 cd0 A0 C hr hk hnm hA => ?_)
  refine j_lsub [(0, .ref aW)] [0] rfl ?_
  refine j_iconst (v := (nI 0)) (pc' := 1) C dX6_layAll_0 rfl (by decide +kernel) ?_
  refine j_istore_n (pc' := 2) C [(1, .int (nI 0)), (0, .ref aW)] dX6_layAll_1 rfl (by decide) rfl ?_
  refine j_lsub [(0, .ref aW), (1, .int (nI 0))] [1, 0] rfl ?_
  refine j_loop4 (fun (i : Nat) (sh2 : Nat → Nat) (fo2 : Nat → Bool) (ba2 : Nat → Bool) => [(aW, .inr (6, [.ref aSh, .ref aN, .ref aO, .ref aFo, .ref aBa, .ref aRc, .int (bI gr)])), (aSh, .inl (cyI, 9, .inl (nA sh2))), (aFo, .inl (cyZ, 9, .inl (bA fo2))), (aBa, .inl (cyZ, 9, .inl (bA ba2))), (aN, .inr (1, [.int (nI (t 0)), .int (nI (t 1)), .int (nI (t 2)), .ref aKd, .ref aFi, .ref aSe, .ref aSb, .ref aLd])), (aKd, .inl (cyI, 9, .inl (nA kd))), (aSb, .inl (cyI, 9, .inl (nA sb))), (aO, .inr (4, [.ref aWi, .ref aCu, .ref aCb, .ref aSk])), (aCu, .inl (cyI, 9, .inl (nA cu))), (aCb, .inl (cyI, 9, .inl (nA cb))), (aSk, .inl (cyI, 9, .inl (nA sk)))]) (fun (i : Nat) (sh2 : Nat → Nat) (fo2 : Nat → Bool) (ba2 : Nat → Bool) => [(0, .ref aW), (1, .int (nI i))]) (fun (i : Nat) (sh2 : Nat → Nat) (fo2 : Nat → Bool) (ba2 : Nat → Bool) => []) (fun (i : Nat) (sh2 : Nat → Nat) (fo2 : Nat → Bool) (ba2 : Nat → Bool) => i ≤ t 1 ∧ LDn t s sh2 fo2 ba2 i) (fun (i : Nat) (sh2 : Nat → Nat) (fo2 : Nat → Bool) (ba2 : Nat → Bool) => t 1 - i) ?_ 0 sh fo ba ?_
  · intro i sh2 fo2 ba2 hI2 ih2
    obtain ⟨hi, hL⟩ := hI2
    refine j_iload_n (pc' := 3) C dX6_layAll_2 rfl 1 rfl ?_
    refine j_aload_n (pc' := 4) C dX6_layAll_3 rfl 0 rfl ?_
    refine j_get (v := .ref aN) (pc' := 7) C KX6 0 1 rfl (by decide) fl_X6_25 rfl rfl dX6_layAll_4 rfl ?_
    refine j_get (v := .int (nI (t 1))) (pc' := 10) C KX1 4 1 rfl (by decide) fl_X6_33 rfl rfl dX6_layAll_7 rfl ?_
    refine j_nc_ge (pc' := 13) C 51 dX6_layAll_10 (by decide) rfl (by omega) (by omega) (fun c10 => ?_) (fun c10 => ?_)
    · exact j_vret C hr hk hA dX6_layAll_51 (⟨_, _, _, rfl, by rw [← show i = t 1 by omega]; exact hL⟩)
    · have h3 := hS.c (c := i) (by omega)
      refine j_aload_n (pc' := 14) C dX6_layAll_13 rfl 0 rfl ?_
      refine j_iload_n (pc' := 15) C dX6_layAll_14 rfl 1 rfl ?_
      refine j_aload_n (pc' := 16) C dX6_layAll_15 rfl 0 rfl ?_
      refine j_get (v := .ref aO) (pc' := 19) C KX6 0 2 rfl (by decide) fl_X6_29 rfl rfl dX6_layAll_16 rfl ?_
      refine j_get (v := .ref aCu) (pc' := 22) C KX4 7 1 rfl (by decide) fl_X6_39 rfl rfl dX6_layAll_19 rfl ?_
      refine j_iload_n (pc' := 23) C dX6_layAll_22 rfl 1 rfl ?_
      refine j_nald (pc' := 24) C 8 rfl (by omega) (by decide) dX6_layAll_23 rfl ?_
      refine j_top (nI (s (3 + i))) (by rw [hcu i (by omega)]) ?_
      refine j_aload_n (pc' := 25) C dX6_layAll_24 rfl 0 rfl ?_
      refine j_get (v := .ref aO) (pc' := 28) C KX6 0 2 rfl (by decide) fl_X6_29 rfl rfl dX6_layAll_25 rfl ?_
      refine j_get (v := .ref aCb) (pc' := 31) C KX4 7 2 rfl (by decide) fl_X6_44 rfl rfl dX6_layAll_28 rfl ?_
      refine j_iload_n (pc' := 32) C dX6_layAll_31 rfl 1 rfl ?_
      refine j_nald (pc' := 33) C 9 rfl (by omega) (by decide) dX6_layAll_32 rfl ?_
      refine j_top (nI (s (12 + i))) (by rw [hcb i (by omega)]) ?_
      refine j_aload_n (pc' := 34) C dX6_layAll_33 rfl 0 rfl ?_
      refine j_get (v := .ref aO) (pc' := 37) C KX6 0 2 rfl (by decide) fl_X6_29 rfl rfl dX6_layAll_34 rfl ?_
      refine j_get (v := .ref aSk) (pc' := 40) C KX4 7 3 rfl (by decide) fl_X6_47 rfl rfl dX6_layAll_37 rfl ?_
      refine j_iload_n (pc' := 41) C dX6_layAll_40 rfl 1 rfl ?_
      refine j_nald (pc' := 42) C 10 rfl (by omega) (by decide) dX6_layAll_41 rfl ?_
      refine j_top (nI (s (21 + i))) (by rw [hsk i (by omega)]) ?_
      refine j_cVv (As := [.int (nI i), .int (nI (s (3 + i))), .int (nI (s (12 + i))), .int (nI (s (21 + i)))]) (wr := [(aO, .inr (4, [.ref aWi, .ref aCu, .ref aCb, .ref aSk])), (aCu, .inl (cyI, 9, .inl (nA cu))), (aCb, .inl (cyI, 9, .inl (nA cb))), (aSk, .inl (cyI, 9, .inl (nA sk)))]) (pc' := 45) C (c_X6_layOne (aW := aW) (aSh := aSh) (aN := aN) (aO := aO) (aFo := aFo) (aBa := aBa) (aRc := aRc) (gr := gr) (sh := sh2) (fo := fo2) (ba := ba2) (t := t) (aKd := aKd) (aFi := aFi) (aSe := aSe) (aSb := aSb) (aLd := aLd) (kd := kd) (sb := sb) (c := i) (cu := s (3 + i)) (cb := s (12 + i)) (sk := s (21 + i)) (hT := by first | assumption | omega) (hkd := by first | assumption | omega) (hsb := by first | assumption | omega) (hc := c10) (hc2 := by omega) (hc3 := by omega) (hc4 := by omega)) Y_X6_layOne (ml_X6_50) [0, 1, 2, 3, 4, 5, 6] [7, 8, 9, 10] rfl rfl rfl rfl (by decide) rfl rfl rfl dX6_layAll_42 rfl rfl rfl (Nat.le_of_ble_eq_true rfl) ⟨Nat.le_of_ble_eq_true rfl, Nat.le_of_ble_eq_true rfl⟩ ⟨Nat.le_of_ble_eq_true rfl, Nat.le_of_ble_eq_true rfl⟩ ⟨rfl, rfl⟩ (fun w1 hQ => ?_)
      obtain ⟨sh1_1, fo1_1, ba1_1, rfl, hF42⟩ := hQ
      refine j_perm [(aW, .inr (6, [.ref aSh, .ref aN, .ref aO, .ref aFo, .ref aBa, .ref aRc, .int (bI gr)])), (aSh, .inl (cyI, 9, .inl (nA sh1_1))), (aFo, .inl (cyZ, 9, .inl (bA fo1_1))), (aBa, .inl (cyZ, 9, .inl (bA ba1_1))), (aN, .inr (1, [.int (nI (t 0)), .int (nI (t 1)), .int (nI (t 2)), .ref aKd, .ref aFi, .ref aSe, .ref aSb, .ref aLd])), (aKd, .inl (cyI, 9, .inl (nA kd))), (aSb, .inl (cyI, 9, .inl (nA sb))), (aO, .inr (4, [.ref aWi, .ref aCu, .ref aCb, .ref aSk])), (aCu, .inl (cyI, 9, .inl (nA cu))), (aCb, .inl (cyI, 9, .inl (nA cb))), (aSk, .inl (cyI, 9, .inl (nA sk)))] [4, 5, 6, 7, 8, 9, 10, 0, 1, 2, 3] rfl rfl (by decide) ?_
      refine j_iinc (v := (nI (i + 1))) (pc' := 48) C [(1, .int (nI (i + 1))), (0, .ref aW)] dX6_layAll_45 rfl 1 rfl (inc_n i 1) (by decide) rfl ?_
      refine j_goto C 2 dX6_layAll_48 (by decide) ?_
      refine j_lsub [(0, .ref aW), (1, .int (nI (i + 1)))] [1, 0] rfl ?_
      exact ih2 (i + 1) sh1_1 fo1_1 ba1_1 (⟨by omega, fun c hc => if q9 : c = i then by subst q9; exact hF42.1 else by rw [(hF42.2 c q9).1, (hF42.2 c q9).2.1, (hF42.2 c q9).2.2]; exact hL c (by omega)⟩) (by omega)
  · exact ⟨Nat.zero_le _, fun c hc => absurd hc (by omega)⟩

set_option maxHeartbeats 4000000 in
set_option maxRecDepth 100000 in
theorem c_X6_flow {lch : Launch} {dG : va_G} {cyI cyZ cyO : ClassId} (aW : Nat) (aSh : Nat) (aN : Nat) (aO : Nat) (aFo : Nat) (aBa : Nat) (aRc : Nat) (gr : Bool) (rc : Nat → Nat) (fr : Nat) (to : Nat) (v : Nat) (hfr : fr < 7) (hto : to < 7) (hrb : ∀ a, a < 7 → rc a < 65536) : Kv lch yX6_flow cX6_flow 5 (rmk 1) dG (cyI, cyZ, cyO) [.ref aW, .int (nI fr), .int (nI to), .int (nI v)] [(aW, .inr (6, [.ref aSh, .ref aN, .ref aO, .ref aFo, .ref aBa, .ref aRc, .int (bI gr)])), (aRc, .inl (cyI, 7, .inl (nA rc)))] (fun w1 => ∃ (rc1 : Nat → Nat), ∃ (g1 : Bool), w1 = [(aW, .inr (6, [.ref aSh, .ref aN, .ref aO, .ref aFo, .ref aBa, .ref aRc, .int (bI g1)])), (aRc, .inl (cyI, 7, .inl (nA rc1)))] ∧ (∀ z, RcK rc z → RcK rc1 (flZ z v fr to)) ∧ (g1 = false → gr = false ∧ rc1 = rc)) := by
  refine Kv.of (own := RX6) rfl (by decide) (Nat.le_of_ble_eq_true rfl) (fun p0 e0 s0 m0 ar0 be0 me0 cd0 A0 C hr hk hnm hA => ?_)
  refine j_lsub [(0, .ref aW), (1, .int (nI fr)), (2, .int (nI to)), (3, .int (nI v))] [0, 1, 2, 3] rfl ?_
  refine j_aload_n (pc' := 1) C dX6_flow_0 rfl 0 rfl ?_
  refine j_get (v := .ref aRc) (pc' := 4) C KX6 0 5 rfl (by decide) fl_X6_22 rfl rfl dX6_flow_1 rfl ?_
  refine j_iload_n (pc' := 5) C dX6_flow_4 rfl 1 rfl ?_
  refine j_nald (pc' := 6) C 1 rfl (by omega) (by decide) dX6_flow_5 rfl ?_
  refine j_iload_n (pc' := 7) C dX6_flow_6 rfl 3 rfl ?_
  refine j_iand (v := (nI ((rc fr) &&& v))) (pc' := 8) C dX6_flow_7 rfl (fa_and (rc fr) v) ?_
  refine j_aload_n (pc' := 9) C dX6_flow_8 rfl 0 rfl ?_
  refine j_get (v := .ref aRc) (pc' := 12) C KX6 0 5 rfl (by decide) fl_X6_22 rfl rfl dX6_flow_9 rfl ?_
  refine j_iload_n (pc' := 13) C dX6_flow_12 rfl 2 rfl ?_
  refine j_nald (pc' := 14) C 1 rfl (by omega) (by decide) dX6_flow_13 rfl ?_
  refine j_iconst (v := (nI 4294967295)) (pc' := 15) C dX6_flow_14 rfl (by decide +kernel) ?_
  refine j_ixor (v := (nI ((rc to) ^^^ 4294967295))) (pc' := 16) C dX6_flow_15 rfl (fb_xorI (rc to) 4294967295) ?_
  refine j_iand (v := (nI (((rc fr) &&& v) &&& ((rc to) ^^^ 4294967295)))) (pc' := 17) C dX6_flow_16 rfl (fa_and ((rc fr) &&& v) ((rc to) ^^^ 4294967295)) ?_
  refine j_istore (pc' := 19) C [(4, .int (nI (((rc fr) &&& v) &&& ((rc to) ^^^ 4294967295)))), (0, .ref aW), (1, .int (nI fr)), (2, .int (nI to)), (3, .int (nI v))] dX6_flow_17 rfl (by decide) rfl ?_
  refine j_iload (pc' := 21) C dX6_flow_19 rfl 0 rfl ?_
  refine j_nz_eq (pc' := 24) C 40 dX6_flow_21 (by decide) rfl (Nat.lt_of_le_of_lt Nat.and_le_left (Nat.lt_of_le_of_lt Nat.and_le_left (by have := hrb fr hfr; omega))) (fun c21 => ?_) (fun c21 => ?_)
  · exact j_vret C hr hk hA dX6_flow_40 (⟨_, _, rfl, fun z9 hz9 => RcK_fl0 hz9 hfr c21, fun q9 => ⟨q9, rfl⟩⟩)
  · refine j_aload_n (pc' := 25) C dX6_flow_24 rfl 1 rfl ?_
    refine j_get (v := .ref aRc) (pc' := 28) C KX6 0 5 rfl (by decide) fl_X6_22 rfl rfl dX6_flow_25 rfl ?_
    refine j_iload_n (pc' := 29) C dX6_flow_28 rfl 3 rfl ?_
    refine j_dup2 (pc' := 30) C dX6_flow_29 rfl rfl rfl ?_
    refine j_nald (pc' := 31) C 1 rfl (by omega) (by decide) dX6_flow_30 rfl ?_
    refine j_iload (pc' := 33) C dX6_flow_31 rfl 0 rfl ?_
    refine j_ior (v := (nI ((rc to) ||| (((rc fr) &&& v) &&& ((rc to) ^^^ 4294967295))))) (pc' := 34) C dX6_flow_33 rfl (fa_or (rc to) (((rc fr) &&& v) &&& ((rc to) ^^^ 4294967295))) ?_
    refine j_nast (pc' := 35) C [(aW, .inr (6, [.ref aSh, .ref aN, .ref aO, .ref aFo, .ref aBa, .ref aRc, .int (bI gr)])), (aRc, .inl (cyI, 7, .inl (nA (uN rc to ((rc to) ||| (((rc fr) &&& v) &&& ((rc to) ^^^ 4294967295)))))))] 1 rfl (by omega) (by decide) dX6_flow_34 rfl rfl ?_
    refine j_aload_n (pc' := 36) C dX6_flow_35 rfl 1 rfl ?_
    refine j_iconst (v := (nI 1)) (pc' := 37) C dX6_flow_36 rfl (by decide +kernel) ?_
    refine j_top (bI true) (by decide +kernel) ?_
    refine j_put (pc' := 40) C [(aW, .inr (6, [.ref aSh, .ref aN, .ref aO, .ref aFo, .ref aBa, .ref aRc, .int (bI true)])), (aRc, .inl (cyI, 7, .inl (nA (uN rc to ((rc to) ||| (((rc fr) &&& v) &&& ((rc to) ^^^ 4294967295)))))))] KX6 0 6 rfl (by decide) fl_X6_68 rfl rfl (nrw_bI _) (fit_bI _) (Nat.le_of_ble_eq_true rfl) dX6_flow_37 rfl rfl ?_
    exact j_vret C hr hk hA dX6_flow_40 (⟨_, _, rfl, fun z9 hz9 => RcK_fl hz9 hfr hto, fun q9 => absurd q9 (by decide)⟩)

set_option maxHeartbeats 4000000 in
set_option maxRecDepth 100000 in
theorem c_X6_spreadOver {lch : Launch} {dG : va_G} {cyI cyZ cyO : ClassId} (aW : Nat) (aSh : Nat) (aN : Nat) (aO : Nat) (aFo : Nat) (aBa : Nat) (aRc : Nat) (gr : Bool) (sh : Nat → Nat) (fo : Nat → Bool) (ba : Nat → Bool) (rc : Nat → Nat) (t : Nat → Nat) (aKd : Nat) (aFi : Nat) (aSe : Nat) (aSb : Nat) (aLd : Nat) (fi : Nat → Nat) (se : Nat → Nat) (s : Nat → Nat) (c : Nat) (hT : WT t) (hfi : ∀ c, c < t 1 → fi c = t (12 + c)) (hse : ∀ c, c < t 1 → se c = t (21 + c)) (hc : c < t 1) (hL1 : LD1 t c (s (3 + c)) (s (12 + c)) (s (21 + c)) (sh c) (fo c) (ba c)) (hz : ∃ z, RcK rc z) : Kv lch yX6_spreadOver cX6_spreadOver 4 (rmk 2) dG (cyI, cyZ, cyO) [.ref aW, .int (nI c)] [(aW, .inr (6, [.ref aSh, .ref aN, .ref aO, .ref aFo, .ref aBa, .ref aRc, .int (bI gr)])), (aSh, .inl (cyI, 9, .inl (nA sh))), (aFo, .inl (cyZ, 9, .inl (bA fo))), (aBa, .inl (cyZ, 9, .inl (bA ba))), (aRc, .inl (cyI, 7, .inl (nA rc))), (aN, .inr (1, [.int (nI (t 0)), .int (nI (t 1)), .int (nI (t 2)), .ref aKd, .ref aFi, .ref aSe, .ref aSb, .ref aLd])), (aFi, .inl (cyI, 9, .inl (nA fi))), (aSe, .inl (cyI, 9, .inl (nA se)))] (fun w1 => ∃ (rc1 : Nat → Nat), ∃ (g1 : Bool), w1 = [(aW, .inr (6, [.ref aSh, .ref aN, .ref aO, .ref aFo, .ref aBa, .ref aRc, .int (bI g1)])), (aSh, .inl (cyI, 9, .inl (nA sh))), (aFo, .inl (cyZ, 9, .inl (bA fo))), (aBa, .inl (cyZ, 9, .inl (bA ba))), (aRc, .inl (cyI, 7, .inl (nA rc1))), (aN, .inr (1, [.int (nI (t 0)), .int (nI (t 1)), .int (nI (t 2)), .ref aKd, .ref aFi, .ref aSe, .ref aSb, .ref aLd])), (aFi, .inl (cyI, 9, .inl (nA fi))), (aSe, .inl (cyI, 9, .inl (nA se)))] ∧ (∀ z, RcK rc z → RcK rc1 (fun st => if shB t s c st = true then lvB t s c (lvA t s c (z st)) else z st)) ∧ (g1 = false → gr = false ∧ rc1 = rc)) := by
  have h1 := hT.n
  have h2 := hT.c hc
  obtain ⟨z0, hz0⟩ := hz
  refine Kv.of (own := RX6) rfl (by decide) (Nat.le_of_ble_eq_true rfl) (fun p0 e0 s0 m0 ar0 be0 me0 cd0 A0 C hr hk hnm hA => ?_)
  refine j_lsub [(0, .ref aW), (1, .int (nI c))] [0, 1] rfl ?_
  refine j_aload_n (pc' := 1) C dX6_spreadOver_0 rfl 0 rfl ?_
  refine j_get (v := .ref aN) (pc' := 4) C KX6 0 1 rfl (by decide) fl_X6_25 rfl rfl dX6_spreadOver_1 rfl ?_
  refine j_get (v := .ref aFi) (pc' := 7) C KX1 5 4 rfl (by decide) fl_X6_79 rfl rfl dX6_spreadOver_4 rfl ?_
  refine j_iload_n (pc' := 8) C dX6_spreadOver_7 rfl 1 rfl ?_
  refine j_nald (pc' := 9) C 6 rfl (by omega) (by decide) dX6_spreadOver_8 rfl ?_
  refine j_top (nI (t (12 + c))) (by rw [hfi c hc]) ?_
  refine j_istore_n (pc' := 10) C [(2, .int (nI (t (12 + c)))), (0, .ref aW), (1, .int (nI c))] dX6_spreadOver_9 rfl (by decide) rfl ?_
  refine j_aload_n (pc' := 11) C dX6_spreadOver_10 rfl 1 rfl ?_
  refine j_get (v := .ref aN) (pc' := 14) C KX6 0 1 rfl (by decide) fl_X6_25 rfl rfl dX6_spreadOver_11 rfl ?_
  refine j_get (v := .ref aSe) (pc' := 17) C KX1 5 5 rfl (by decide) fl_X6_82 rfl rfl dX6_spreadOver_14 rfl ?_
  refine j_iload_n (pc' := 18) C dX6_spreadOver_17 rfl 2 rfl ?_
  refine j_nald (pc' := 19) C 7 rfl (by omega) (by decide) dX6_spreadOver_18 rfl ?_
  refine j_top (nI (t (21 + c))) (by rw [hse c hc]) ?_
  refine j_istore_n (pc' := 20) C [(3, .int (nI (t (21 + c)))), (2, .int (nI (t (12 + c)))), (0, .ref aW), (1, .int (nI c))] dX6_spreadOver_19 rfl (by decide) rfl ?_
  refine j_aload_n (pc' := 21) C dX6_spreadOver_20 rfl 2 rfl ?_
  refine j_get (v := .ref aFo) (pc' := 24) C KX6 0 3 rfl (by decide) fl_X6_15 rfl rfl dX6_spreadOver_21 rfl ?_
  refine j_iload_n (pc' := 25) C dX6_spreadOver_24 rfl 3 rfl ?_
  refine j_zald (pc' := 26) C 2 rfl (by omega) (by decide) dX6_spreadOver_25 rfl ?_
  refine j_b_eq (pc' := 29) C 41 dX6_spreadOver_26 (by decide) rfl (fun c26 => ?_) (fun c26 => ?_)
  · refine j_aload_n (pc' := 42) C dX6_spreadOver_41 rfl 2 rfl ?_
    refine j_get (v := .ref aBa) (pc' := 45) C KX6 0 4 rfl (by decide) fl_X6_19 rfl rfl dX6_spreadOver_42 rfl ?_
    refine j_iload_n (pc' := 46) C dX6_spreadOver_45 rfl 3 rfl ?_
    refine j_zald (pc' := 47) C 3 rfl (by omega) (by decide) dX6_spreadOver_46 rfl ?_
    refine j_b_eq (pc' := 50) C 62 dX6_spreadOver_47 (by decide) rfl (fun c47 => ?_) (fun c47 => ?_)
    · exact j_vret C hr hk hA dX6_spreadOver_62 (⟨_, _, rfl, fun z9 hz9 => RcK_cong (hz9) (fun st9 hst9 => by rw [← so_z z9 hL1 st9 hst9, c26, c47]; rfl), fun q9 => ⟨q9, rfl⟩⟩)
    · refine j_aload_n (pc' := 51) C dX6_spreadOver_50 rfl 2 rfl ?_
      refine j_iload_n (pc' := 52) C dX6_spreadOver_51 rfl 0 rfl ?_
      refine j_iload_n (pc' := 53) C dX6_spreadOver_52 rfl 1 rfl ?_
      refine j_aload_n (pc' := 54) C dX6_spreadOver_53 rfl 2 rfl ?_
      refine j_get (v := .ref aSh) (pc' := 57) C KX6 0 0 rfl (by decide) fl_X6_9 rfl rfl dX6_spreadOver_54 rfl ?_
      refine j_iload_n (pc' := 58) C dX6_spreadOver_57 rfl 3 rfl ?_
      refine j_nald (pc' := 59) C 1 rfl (by omega) (by decide) dX6_spreadOver_58 rfl ?_
      refine j_cVv (As := [.int (nI (t (21 + c))), .int (nI (t (12 + c))), .int (nI (sh c))]) (wr := [(aSh, .inl (cyI, 9, .inl (nA sh))), (aFo, .inl (cyZ, 9, .inl (bA fo))), (aBa, .inl (cyZ, 9, .inl (bA ba))), (aN, .inr (1, [.int (nI (t 0)), .int (nI (t 1)), .int (nI (t 2)), .ref aKd, .ref aFi, .ref aSe, .ref aSb, .ref aLd])), (aFi, .inl (cyI, 9, .inl (nA fi))), (aSe, .inl (cyI, 9, .inl (nA se)))]) (pc' := 62) C (c_X6_flow (aW := aW) (aSh := aSh) (aN := aN) (aO := aO) (aFo := aFo) (aBa := aBa) (aRc := aRc) (gr := gr) (rc := rc) (fr := t (21 + c)) (to := t (12 + c)) (v := sh c) (hfr := by omega) (hto := by omega) (hrb := hz0.1)) Y_X6_flow (ml_X6_85) [0, 4] [1, 2, 3, 5, 6, 7] rfl rfl rfl rfl (by decide) rfl rfl rfl dX6_spreadOver_59 rfl rfl rfl (Nat.le_of_ble_eq_true rfl) ⟨Nat.le_of_ble_eq_true rfl, Nat.le_of_ble_eq_true rfl⟩ ⟨Nat.le_of_ble_eq_true rfl, Nat.le_of_ble_eq_true rfl⟩ ⟨rfl, rfl⟩ (fun w1 hQ => ?_)
      obtain ⟨rc1_1, g1_1, rfl, hF59⟩ := hQ
      refine j_perm [(aW, .inr (6, [.ref aSh, .ref aN, .ref aO, .ref aFo, .ref aBa, .ref aRc, .int (bI g1_1)])), (aSh, .inl (cyI, 9, .inl (nA sh))), (aFo, .inl (cyZ, 9, .inl (bA fo))), (aBa, .inl (cyZ, 9, .inl (bA ba))), (aRc, .inl (cyI, 7, .inl (nA rc1_1))), (aN, .inr (1, [.int (nI (t 0)), .int (nI (t 1)), .int (nI (t 2)), .ref aKd, .ref aFi, .ref aSe, .ref aSb, .ref aLd])), (aFi, .inl (cyI, 9, .inl (nA fi))), (aSe, .inl (cyI, 9, .inl (nA se)))] [6, 0, 1, 2, 7, 3, 4, 5] rfl rfl (by decide) ?_
      exact j_vret C hr hk hA dX6_spreadOver_62 (⟨_, _, rfl, fun z9 hz9 => RcK_cong (hF59.1 _ (hz9)) (fun st9 hst9 => by rw [← so_z z9 hL1 st9 hst9, c26, c47]; rfl), hF59.2⟩)
  · refine j_aload_n (pc' := 30) C dX6_spreadOver_29 rfl 2 rfl ?_
    refine j_iload_n (pc' := 31) C dX6_spreadOver_30 rfl 1 rfl ?_
    refine j_iload_n (pc' := 32) C dX6_spreadOver_31 rfl 0 rfl ?_
    refine j_aload_n (pc' := 33) C dX6_spreadOver_32 rfl 2 rfl ?_
    refine j_get (v := .ref aSh) (pc' := 36) C KX6 0 0 rfl (by decide) fl_X6_9 rfl rfl dX6_spreadOver_33 rfl ?_
    refine j_iload_n (pc' := 37) C dX6_spreadOver_36 rfl 3 rfl ?_
    refine j_nald (pc' := 38) C 1 rfl (by omega) (by decide) dX6_spreadOver_37 rfl ?_
    refine j_cVv (As := [.int (nI (t (12 + c))), .int (nI (t (21 + c))), .int (nI (sh c))]) (wr := [(aSh, .inl (cyI, 9, .inl (nA sh))), (aFo, .inl (cyZ, 9, .inl (bA fo))), (aBa, .inl (cyZ, 9, .inl (bA ba))), (aN, .inr (1, [.int (nI (t 0)), .int (nI (t 1)), .int (nI (t 2)), .ref aKd, .ref aFi, .ref aSe, .ref aSb, .ref aLd])), (aFi, .inl (cyI, 9, .inl (nA fi))), (aSe, .inl (cyI, 9, .inl (nA se)))]) (pc' := 41) C (c_X6_flow (aW := aW) (aSh := aSh) (aN := aN) (aO := aO) (aFo := aFo) (aBa := aBa) (aRc := aRc) (gr := gr) (rc := rc) (fr := t (12 + c)) (to := t (21 + c)) (v := sh c) (hfr := by omega) (hto := by omega) (hrb := hz0.1)) Y_X6_flow (ml_X6_85) [0, 4] [1, 2, 3, 5, 6, 7] rfl rfl rfl rfl (by decide) rfl rfl rfl dX6_spreadOver_38 rfl rfl rfl (Nat.le_of_ble_eq_true rfl) ⟨Nat.le_of_ble_eq_true rfl, Nat.le_of_ble_eq_true rfl⟩ ⟨Nat.le_of_ble_eq_true rfl, Nat.le_of_ble_eq_true rfl⟩ ⟨rfl, rfl⟩ (fun w1 hQ => ?_)
    obtain ⟨rc1_2, g1_2, rfl, hF38⟩ := hQ
    refine j_perm [(aW, .inr (6, [.ref aSh, .ref aN, .ref aO, .ref aFo, .ref aBa, .ref aRc, .int (bI g1_2)])), (aSh, .inl (cyI, 9, .inl (nA sh))), (aFo, .inl (cyZ, 9, .inl (bA fo))), (aBa, .inl (cyZ, 9, .inl (bA ba))), (aRc, .inl (cyI, 7, .inl (nA rc1_2))), (aN, .inr (1, [.int (nI (t 0)), .int (nI (t 1)), .int (nI (t 2)), .ref aKd, .ref aFi, .ref aSe, .ref aSb, .ref aLd])), (aFi, .inl (cyI, 9, .inl (nA fi))), (aSe, .inl (cyI, 9, .inl (nA se)))] [6, 0, 1, 2, 7, 3, 4, 5] rfl rfl (by decide) ?_
    refine j_aload_n (pc' := 42) C dX6_spreadOver_41 rfl 2 rfl ?_
    refine j_get (v := .ref aBa) (pc' := 45) C KX6 0 4 rfl (by decide) fl_X6_19 rfl rfl dX6_spreadOver_42 rfl ?_
    refine j_iload_n (pc' := 46) C dX6_spreadOver_45 rfl 3 rfl ?_
    refine j_zald (pc' := 47) C 3 rfl (by omega) (by decide) dX6_spreadOver_46 rfl ?_
    refine j_b_eq (pc' := 50) C 62 dX6_spreadOver_47 (by decide) rfl (fun c47 => ?_) (fun c47 => ?_)
    · exact j_vret C hr hk hA dX6_spreadOver_62 (⟨_, _, rfl, fun z9 hz9 => RcK_cong (hF38.1 _ hz9) (fun st9 hst9 => by rw [← so_z z9 hL1 st9 hst9, c26, c47]; rfl), hF38.2⟩)
    · refine j_aload_n (pc' := 51) C dX6_spreadOver_50 rfl 2 rfl ?_
      refine j_iload_n (pc' := 52) C dX6_spreadOver_51 rfl 0 rfl ?_
      refine j_iload_n (pc' := 53) C dX6_spreadOver_52 rfl 1 rfl ?_
      refine j_aload_n (pc' := 54) C dX6_spreadOver_53 rfl 2 rfl ?_
      refine j_get (v := .ref aSh) (pc' := 57) C KX6 0 0 rfl (by decide) fl_X6_9 rfl rfl dX6_spreadOver_54 rfl ?_
      refine j_iload_n (pc' := 58) C dX6_spreadOver_57 rfl 3 rfl ?_
      refine j_nald (pc' := 59) C 1 rfl (by omega) (by decide) dX6_spreadOver_58 rfl ?_
      refine j_cVv (As := [.int (nI (t (21 + c))), .int (nI (t (12 + c))), .int (nI (sh c))]) (wr := [(aSh, .inl (cyI, 9, .inl (nA sh))), (aFo, .inl (cyZ, 9, .inl (bA fo))), (aBa, .inl (cyZ, 9, .inl (bA ba))), (aN, .inr (1, [.int (nI (t 0)), .int (nI (t 1)), .int (nI (t 2)), .ref aKd, .ref aFi, .ref aSe, .ref aSb, .ref aLd])), (aFi, .inl (cyI, 9, .inl (nA fi))), (aSe, .inl (cyI, 9, .inl (nA se)))]) (pc' := 62) C (c_X6_flow (aW := aW) (aSh := aSh) (aN := aN) (aO := aO) (aFo := aFo) (aBa := aBa) (aRc := aRc) (gr := g1_2) (rc := rc1_2) (fr := t (21 + c)) (to := t (12 + c)) (v := sh c) (hfr := by omega) (hto := by omega) (hrb := (hF38.1 _ hz0).1)) Y_X6_flow (ml_X6_85) [0, 4] [1, 2, 3, 5, 6, 7] rfl rfl rfl rfl (by decide) rfl rfl rfl dX6_spreadOver_59 rfl rfl rfl (Nat.le_of_ble_eq_true rfl) ⟨Nat.le_of_ble_eq_true rfl, Nat.le_of_ble_eq_true rfl⟩ ⟨Nat.le_of_ble_eq_true rfl, Nat.le_of_ble_eq_true rfl⟩ ⟨rfl, rfl⟩ (fun w1 hQ => ?_)
      obtain ⟨rc1_3, g1_3, rfl, hF59⟩ := hQ
      refine j_perm [(aW, .inr (6, [.ref aSh, .ref aN, .ref aO, .ref aFo, .ref aBa, .ref aRc, .int (bI g1_3)])), (aSh, .inl (cyI, 9, .inl (nA sh))), (aFo, .inl (cyZ, 9, .inl (bA fo))), (aBa, .inl (cyZ, 9, .inl (bA ba))), (aRc, .inl (cyI, 7, .inl (nA rc1_3))), (aN, .inr (1, [.int (nI (t 0)), .int (nI (t 1)), .int (nI (t 2)), .ref aKd, .ref aFi, .ref aSe, .ref aSb, .ref aLd])), (aFi, .inl (cyI, 9, .inl (nA fi))), (aSe, .inl (cyI, 9, .inl (nA se)))] [6, 0, 1, 2, 7, 3, 4, 5] rfl rfl (by decide) ?_
      exact j_vret C hr hk hA dX6_spreadOver_62 (⟨_, _, rfl, fun z9 hz9 => RcK_cong (hF59.1 _ (hF38.1 _ hz9)) (fun st9 hst9 => by rw [← so_z z9 hL1 st9 hst9, c26, c47]; rfl), fun q9 => ⟨(hF38.2 (hF59.2 q9).1).1, (hF59.2 q9).2.trans (hF38.2 (hF59.2 q9).1).2⟩⟩)

set_option maxHeartbeats 4000000 in
set_option maxRecDepth 100000 in
theorem c_X6_spread {lch : Launch} {dG : va_G} {cyI cyZ cyO : ClassId} (aW : Nat) (aSh : Nat) (aN : Nat) (aO : Nat) (aFo : Nat) (aBa : Nat) (aRc : Nat) (gr : Bool) (sh : Nat → Nat) (fo : Nat → Bool) (ba : Nat → Bool) (rc : Nat → Nat) (t : Nat → Nat) (aKd : Nat) (aFi : Nat) (aSe : Nat) (aSb : Nat) (aLd : Nat) (fi : Nat → Nat) (se : Nat → Nat) (s : Nat → Nat) (wo : Nat) (hT : WT t) (hfi : ∀ c, c < t 1 → fi c = t (12 + c)) (hse : ∀ c, c < t 1 → se c = t (21 + c)) (hL : LDn t s sh fo ba (t 1)) (hwo : wo < 512) : Kv lch yX6_spread cX6_spread 4 (rmk 3) dG (cyI, cyZ, cyO) [.ref aW, .int (nI wo)] [(aW, .inr (6, [.ref aSh, .ref aN, .ref aO, .ref aFo, .ref aBa, .ref aRc, .int (bI gr)])), (aSh, .inl (cyI, 9, .inl (nA sh))), (aFo, .inl (cyZ, 9, .inl (bA fo))), (aBa, .inl (cyZ, 9, .inl (bA ba))), (aRc, .inl (cyI, 7, .inl (nA rc))), (aN, .inr (1, [.int (nI (t 0)), .int (nI (t 1)), .int (nI (t 2)), .ref aKd, .ref aFi, .ref aSe, .ref aSb, .ref aLd])), (aFi, .inl (cyI, 9, .inl (nA fi))), (aSe, .inl (cyI, 9, .inl (nA se)))] (fun w1 => ∃ (rc1 : Nat → Nat), ∃ (g1 : Bool), w1 = [(aW, .inr (6, [.ref aSh, .ref aN, .ref aO, .ref aFo, .ref aBa, .ref aRc, .int (bI g1)])), (aSh, .inl (cyI, 9, .inl (nA sh))), (aFo, .inl (cyZ, 9, .inl (bA fo))), (aBa, .inl (cyZ, 9, .inl (bA ba))), (aRc, .inl (cyI, 7, .inl (nA rc1))), (aN, .inr (1, [.int (nI (t 0)), .int (nI (t 1)), .int (nI (t 2)), .ref aKd, .ref aFi, .ref aSe, .ref aSb, .ref aLd])), (aFi, .inl (cyI, 9, .inl (nA fi))), (aSe, .inl (cyI, 9, .inl (nA se)))] ∧ RcK rc1 (fun st => lvR t s st wo (t 0))) := by
  have h1 := hT.n
  refine Kv.of (own := RX6) rfl (by decide) (Nat.le_of_ble_eq_true rfl) (fun p0 e0 s0 m0 ar0 be0 me0 cd0 A0 C hr hk hnm hA => ?_)
  refine j_lsub [(0, .ref aW), (1, .int (nI wo))] [0, 1] rfl ?_
  refine j_iconst (v := (nI 0)) (pc' := 1) C dX6_spread_0 rfl (by decide +kernel) ?_
  refine j_istore_n (pc' := 2) C [(2, .int (nI 0)), (0, .ref aW), (1, .int (nI wo))] dX6_spread_1 rfl (by decide) rfl ?_
  refine j_lsub [(0, .ref aW), (1, .int (nI wo)), (2, .int (nI 0))] [1, 2, 0] rfl ?_
  refine j_loop2 (fun (i : Nat) (y : Nat → Nat) => [(aW, .inr (6, [.ref aSh, .ref aN, .ref aO, .ref aFo, .ref aBa, .ref aRc, .int (bI gr)])), (aSh, .inl (cyI, 9, .inl (nA sh))), (aFo, .inl (cyZ, 9, .inl (bA fo))), (aBa, .inl (cyZ, 9, .inl (bA ba))), (aRc, .inl (cyI, 7, .inl (nA y))), (aN, .inr (1, [.int (nI (t 0)), .int (nI (t 1)), .int (nI (t 2)), .ref aKd, .ref aFi, .ref aSe, .ref aSb, .ref aLd])), (aFi, .inl (cyI, 9, .inl (nA fi))), (aSe, .inl (cyI, 9, .inl (nA se)))]) (fun (i : Nat) (y : Nat → Nat) => [(0, .ref aW), (1, .int (nI wo)), (2, .int (nI i))]) (fun (i : Nat) (y : Nat → Nat) => []) (fun (i : Nat) (y : Nat → Nat) => i ≤ 7 ∧ y = flN rc (fun _ => 0) 0 i) (fun (i : Nat) (y : Nat → Nat) => 7 - i) ?_ 0 rc ?_
  · intro i y hI2 ih2
    obtain ⟨hi, hy⟩ := hI2
    refine j_iload_n (pc' := 3) C dX6_spread_2 rfl 2 rfl ?_
    refine j_bipush (v := (nI 7)) (pc' := 5) C dX6_spread_3 rfl (by decide +kernel) ?_
    refine j_nc_ge (pc' := 8) C 21 dX6_spread_5 (by decide) rfl (by omega) (by omega) (fun c5 => ?_) (fun c5 => ?_)
    · refine j_aload_n (pc' := 22) C dX6_spread_21 rfl 0 rfl ?_
      refine j_get (v := .ref aRc) (pc' := 25) C KX6 0 5 rfl (by decide) fl_X6_22 rfl rfl dX6_spread_22 rfl ?_
      refine j_iconst (v := (nI 0)) (pc' := 26) C dX6_spread_25 rfl (by decide +kernel) ?_
      refine j_ldc (v := 65535) (pc' := 28) C dX6_spread_26 rfl co_X6_54 ?_
      refine j_top (nI 65535) (by decide +kernel) ?_
      refine j_nast (pc' := 29) C [(aW, .inr (6, [.ref aSh, .ref aN, .ref aO, .ref aFo, .ref aBa, .ref aRc, .int (bI gr)])), (aSh, .inl (cyI, 9, .inl (nA sh))), (aFo, .inl (cyZ, 9, .inl (bA fo))), (aBa, .inl (cyZ, 9, .inl (bA ba))), (aRc, .inl (cyI, 7, .inl (nA (uN y 0 65535)))), (aN, .inr (1, [.int (nI (t 0)), .int (nI (t 1)), .int (nI (t 2)), .ref aKd, .ref aFi, .ref aSe, .ref aSb, .ref aLd])), (aFi, .inl (cyI, 9, .inl (nA fi))), (aSe, .inl (cyI, 9, .inl (nA se)))] 4 rfl (by omega) (by decide) dX6_spread_28 rfl rfl ?_
      refine j_aload_n (pc' := 30) C dX6_spread_29 rfl 0 rfl ?_
      refine j_iconst (v := (nI 1)) (pc' := 31) C dX6_spread_30 rfl (by decide +kernel) ?_
      refine j_top (bI true) (by decide +kernel) ?_
      refine j_put (pc' := 34) C [(aW, .inr (6, [.ref aSh, .ref aN, .ref aO, .ref aFo, .ref aBa, .ref aRc, .int (bI true)])), (aSh, .inl (cyI, 9, .inl (nA sh))), (aFo, .inl (cyZ, 9, .inl (bA fo))), (aBa, .inl (cyZ, 9, .inl (bA ba))), (aRc, .inl (cyI, 7, .inl (nA (uN y 0 65535)))), (aN, .inr (1, [.int (nI (t 0)), .int (nI (t 1)), .int (nI (t 2)), .ref aKd, .ref aFi, .ref aSe, .ref aSb, .ref aLd])), (aFi, .inl (cyI, 9, .inl (nA fi))), (aSe, .inl (cyI, 9, .inl (nA se)))] KX6 0 6 rfl (by decide) fl_X6_68 rfl rfl (nrw_bI _) (fit_bI _) (Nat.le_of_ble_eq_true rfl) dX6_spread_31 rfl rfl ?_
      refine j_iconst (v := (nI 1)) (pc' := 35) C dX6_spread_34 rfl (by decide +kernel) ?_
      refine j_istore_n (pc' := 36) C [(2, .int (nI 1)), (0, .ref aW), (1, .int (nI wo))] dX6_spread_35 rfl (by decide) rfl ?_
      refine j_lsub [(0, .ref aW), (1, .int (nI wo)), (2, .int (nI 1))] [1, 2, 0] rfl ?_
      refine j_loop3 (fun (r : Nat) (rc2 : Nat → Nat) (g2 : Bool) => [(aW, .inr (6, [.ref aSh, .ref aN, .ref aO, .ref aFo, .ref aBa, .ref aRc, .int (bI g2)])), (aSh, .inl (cyI, 9, .inl (nA sh))), (aFo, .inl (cyZ, 9, .inl (bA fo))), (aBa, .inl (cyZ, 9, .inl (bA ba))), (aRc, .inl (cyI, 7, .inl (nA rc2))), (aN, .inr (1, [.int (nI (t 0)), .int (nI (t 1)), .int (nI (t 2)), .ref aKd, .ref aFi, .ref aSe, .ref aSb, .ref aLd])), (aFi, .inl (cyI, 9, .inl (nA fi))), (aSe, .inl (cyI, 9, .inl (nA se)))]) (fun (r : Nat) (rc2 : Nat → Nat) (g2 : Bool) => [(0, .ref aW), (1, .int (nI wo)), (2, .int (nI r))]) (fun (r : Nat) (rc2 : Nat → Nat) (g2 : Bool) => []) (fun (r : Nat) (rc2 : Nat → Nat) (g2 : Bool) => 1 ≤ r ∧ r ≤ t 0 ∧ RcK rc2 (fun st => lvR t s st wo (r - 1)) ∧ (g2 = false → ∀ st, st < 16 → lvR t s st wo (r - 1 + 1) = lvR t s st wo (r - 1))) (fun (r : Nat) (rc2 : Nat → Nat) (g2 : Bool) => t 0 - r) ?_ 1 (uN y 0 65535) true ?_
      · intro r rc2 g2 hI36 ih36
        obtain ⟨hr1, hr2, hK, hfx⟩ := hI36
        refine j_iload_n (pc' := 37) C dX6_spread_36 rfl 2 rfl ?_
        refine j_aload_n (pc' := 38) C dX6_spread_37 rfl 0 rfl ?_
        refine j_get (v := .ref aN) (pc' := 41) C KX6 0 1 rfl (by decide) fl_X6_25 rfl rfl dX6_spread_38 rfl ?_
        refine j_get (v := .int (nI (t 0))) (pc' := 44) C KX1 5 0 rfl (by decide) fl_X6_72 rfl rfl dX6_spread_41 rfl ?_
        refine j_nc_ge (pc' := 47) C 97 dX6_spread_44 (by decide) rfl (by omega) (by omega) (fun c44 => ?_) (fun c44 => ?_)
        · exact j_vret C hr hk hA dX6_spread_97 (⟨_, _, rfl, RcK_cong hK (fun st9 _ => by rw [lvR_fix hT, show r = t 0 by omega])⟩)
        · refine j_aload_n (pc' := 48) C dX6_spread_47 rfl 0 rfl ?_
          refine j_get (v := .int (bI g2)) (pc' := 51) C KX6 0 6 rfl (by decide) fl_X6_68 rfl rfl dX6_spread_48 rfl ?_
          refine j_b_eq (pc' := 54) C 97 dX6_spread_51 (by decide) rfl (fun c51 => ?_) (fun c51 => ?_)
          · exact j_vret C hr hk hA dX6_spread_97 (⟨_, _, rfl, RcK_cong hK (fun st9 hst9 => (lvR_early (by omega) (hfx c51 st9 hst9)).symm)⟩)
          · refine j_aload_n (pc' := 55) C dX6_spread_54 rfl 0 rfl ?_
            refine j_iconst (v := (nI 0)) (pc' := 56) C dX6_spread_55 rfl (by decide +kernel) ?_
            refine j_top (bI false) (by decide +kernel) ?_
            refine j_put (pc' := 59) C [(aW, .inr (6, [.ref aSh, .ref aN, .ref aO, .ref aFo, .ref aBa, .ref aRc, .int (bI false)])), (aSh, .inl (cyI, 9, .inl (nA sh))), (aFo, .inl (cyZ, 9, .inl (bA fo))), (aBa, .inl (cyZ, 9, .inl (bA ba))), (aRc, .inl (cyI, 7, .inl (nA rc2))), (aN, .inr (1, [.int (nI (t 0)), .int (nI (t 1)), .int (nI (t 2)), .ref aKd, .ref aFi, .ref aSe, .ref aSb, .ref aLd])), (aFi, .inl (cyI, 9, .inl (nA fi))), (aSe, .inl (cyI, 9, .inl (nA se)))] KX6 0 6 rfl (by decide) fl_X6_68 rfl rfl (nrw_bI _) (fit_bI _) (Nat.le_of_ble_eq_true rfl) dX6_spread_56 rfl rfl ?_
            refine j_iconst (v := (nI 0)) (pc' := 60) C dX6_spread_59 rfl (by decide +kernel) ?_
            refine j_istore_n (pc' := 61) C [(3, .int (nI 0)), (0, .ref aW), (1, .int (nI wo)), (2, .int (nI r))] dX6_spread_60 rfl (by decide) rfl ?_
            refine j_lsub [(0, .ref aW), (1, .int (nI wo)), (2, .int (nI r)), (3, .int (nI 0))] [1, 2, 3, 0] rfl ?_
            refine j_loop3 (fun (c : Nat) (rc3 : Nat → Nat) (g3 : Bool) => [(aW, .inr (6, [.ref aSh, .ref aN, .ref aO, .ref aFo, .ref aBa, .ref aRc, .int (bI g3)])), (aSh, .inl (cyI, 9, .inl (nA sh))), (aFo, .inl (cyZ, 9, .inl (bA fo))), (aBa, .inl (cyZ, 9, .inl (bA ba))), (aRc, .inl (cyI, 7, .inl (nA rc3))), (aN, .inr (1, [.int (nI (t 0)), .int (nI (t 1)), .int (nI (t 2)), .ref aKd, .ref aFi, .ref aSe, .ref aSb, .ref aLd])), (aFi, .inl (cyI, 9, .inl (nA fi))), (aSe, .inl (cyI, 9, .inl (nA se)))]) (fun (c : Nat) (rc3 : Nat → Nat) (g3 : Bool) => [(0, .ref aW), (1, .int (nI wo)), (2, .int (nI r)), (3, .int (nI c))]) (fun (c : Nat) (rc3 : Nat → Nat) (g3 : Bool) => []) (fun (c : Nat) (rc3 : Nat → Nat) (g3 : Bool) => c ≤ t 1 ∧ RcK rc3 (fun st => lvS t s st wo c (lvR t s st wo (r - 1))) ∧ (g3 = false → rc3 = rc2)) (fun (c : Nat) (rc3 : Nat → Nat) (g3 : Bool) => t 1 - c) ?_ 0 rc2 false ?_
            · intro c rc3 g3 hI61 ih61
              obtain ⟨hc0, hK3, hg3⟩ := hI61
              refine j_iload_n (pc' := 62) C dX6_spread_61 rfl 3 rfl ?_
              refine j_aload_n (pc' := 63) C dX6_spread_62 rfl 0 rfl ?_
              refine j_get (v := .ref aN) (pc' := 66) C KX6 0 1 rfl (by decide) fl_X6_25 rfl rfl dX6_spread_63 rfl ?_
              refine j_get (v := .int (nI (t 1))) (pc' := 69) C KX1 5 1 rfl (by decide) fl_X6_33 rfl rfl dX6_spread_66 rfl ?_
              refine j_nc_ge (pc' := 72) C 91 dX6_spread_69 (by decide) rfl (by omega) (by omega) (fun c69 => ?_) (fun c69 => ?_)
              · refine j_iinc (v := (nI (r + 1))) (pc' := 94) C [(2, .int (nI (r + 1))), (0, .ref aW), (1, .int (nI wo)), (3, .int (nI c))] dX6_spread_91 rfl 2 rfl (inc_n r 1) (by decide) rfl ?_
                refine j_goto C 36 dX6_spread_94 (by decide) ?_
                refine j_lsub [(0, .ref aW), (1, .int (nI wo)), (2, .int (nI (r + 1)))] [1, 2, 0] rfl ?_
                have h55 : RcK rc3 (fun st => lvR t s st wo (r - 1 + 1)) := by have h56 := hK3; rw [show c = t 1 by omega] at h56; exact h56
                exact ih36 (r + 1) rc3 g3 (⟨by omega, by omega, by rw [Nat.add_sub_cancel, ← show r - 1 + 1 = r by omega]; exact h55, fun q9 st9 hst9 => by rw [hg3 q9] at h55; have e9 := RcK_same h55 hK (fun st8 _ => lvR_lt hT _) (fun st8 _ => lvR_lt hT _) st9 hst9; have e1 := lvR_stay e9 1; have e2 := lvR_stay e9 2; rw [show r + 1 - 1 + 1 = r - 1 + 2 by omega, show r + 1 - 1 = r - 1 + 1 by omega, e1, e2]⟩) (by omega)
              · refine j_iload_n (pc' := 73) C dX6_spread_72 rfl 1 rfl ?_
                refine j_iload_n (pc' := 74) C dX6_spread_73 rfl 3 rfl ?_
                refine j_ishr (v := (nI (wo >>> c))) (pc' := 75) C dX6_spread_74 rfl (sh_r (by omega) (by omega)) ?_
                refine j_iconst (v := (nI 1)) (pc' := 76) C dX6_spread_75 rfl (by decide +kernel) ?_
                refine j_iand (v := (bI (Nat.testBit wo c))) (pc' := 77) C dX6_spread_76 rfl (tb_bit _ _) ?_
                refine j_b_ne (pc' := 80) C 85 dX6_spread_77 (by decide) rfl (fun c77 => ?_) (fun c77 => ?_)
                · refine j_iinc (v := (nI (c + 1))) (pc' := 88) C [(3, .int (nI (c + 1))), (0, .ref aW), (1, .int (nI wo)), (2, .int (nI r))] dX6_spread_85 rfl 3 rfl (inc_n c 1) (by decide) rfl ?_
                  refine j_goto C 61 dX6_spread_88 (by decide) ?_
                  refine j_lsub [(0, .ref aW), (1, .int (nI wo)), (2, .int (nI r)), (3, .int (nI (c + 1)))] [1, 2, 3, 0] rfl ?_
                  exact ih61 (c + 1) rc3 g3 (⟨by omega, RcK_cong hK3 (fun st9 hst9 => by rw [lvS]; unfold lvC; rw [c77]; rfl), hg3⟩) (by omega)
                · refine j_aload_n (pc' := 81) C dX6_spread_80 rfl 0 rfl ?_
                  refine j_iload_n (pc' := 82) C dX6_spread_81 rfl 3 rfl ?_
                  refine j_cVv (As := [.int (nI c)]) (wr := []) (pc' := 85) C (c_X6_spreadOver (aW := aW) (aSh := aSh) (aN := aN) (aO := aO) (aFo := aFo) (aBa := aBa) (aRc := aRc) (gr := g3) (sh := sh) (fo := fo) (ba := ba) (rc := rc3) (t := t) (aKd := aKd) (aFi := aFi) (aSe := aSe) (aSb := aSb) (aLd := aLd) (fi := fi) (se := se) (s := s) (c := c) (hT := by first | assumption | omega) (hfi := by first | assumption | omega) (hse := by first | assumption | omega) (hc := c69) (hL1 := hL c c69) (hz := ⟨_, hK3⟩)) Y_X6_spreadOver (ml_X6_75) [0, 1, 2, 3, 4, 5, 6, 7] [] rfl rfl rfl rfl (by decide) rfl rfl rfl dX6_spread_82 rfl rfl rfl (Nat.le_of_ble_eq_true rfl) ⟨Nat.le_of_ble_eq_true rfl, Nat.le_of_ble_eq_true rfl⟩ ⟨Nat.le_of_ble_eq_true rfl, Nat.le_of_ble_eq_true rfl⟩ ⟨rfl, rfl⟩ (fun w1 hQ => ?_)
                  obtain ⟨rc1_1, g1_1, rfl, hF82⟩ := hQ
                  refine j_iinc (v := (nI (c + 1))) (pc' := 88) C [(3, .int (nI (c + 1))), (0, .ref aW), (1, .int (nI wo)), (2, .int (nI r))] dX6_spread_85 rfl 3 rfl (inc_n c 1) (by decide) rfl ?_
                  refine j_goto C 61 dX6_spread_88 (by decide) ?_
                  refine j_lsub [(0, .ref aW), (1, .int (nI wo)), (2, .int (nI r)), (3, .int (nI (c + 1)))] [1, 2, 3, 0] rfl ?_
                  exact ih61 (c + 1) rc1_1 g1_1 (⟨by omega, RcK_cong (hF82.1 _ hK3) (fun st9 hst9 => by rw [lvS]; unfold lvC; rw [c77]; rfl), fun q9 => (hF82.2 q9).2.trans (hg3 (hF82.2 q9).1)⟩) (by omega)
            · exact ⟨Nat.zero_le _, hK, fun _ => rfl⟩
      · exact ⟨Nat.le_refl _, by omega, by rw [hy, show i = 7 by omega]; exact RcK_0, fun q9 => absurd q9 (by decide)⟩
    · refine j_aload_n (pc' := 9) C dX6_spread_8 rfl 0 rfl ?_
      refine j_get (v := .ref aRc) (pc' := 12) C KX6 0 5 rfl (by decide) fl_X6_22 rfl rfl dX6_spread_9 rfl ?_
      refine j_iload_n (pc' := 13) C dX6_spread_12 rfl 2 rfl ?_
      refine j_iconst (v := (nI 0)) (pc' := 14) C dX6_spread_13 rfl (by decide +kernel) ?_
      refine j_nast (pc' := 15) C [(aW, .inr (6, [.ref aSh, .ref aN, .ref aO, .ref aFo, .ref aBa, .ref aRc, .int (bI gr)])), (aSh, .inl (cyI, 9, .inl (nA sh))), (aFo, .inl (cyZ, 9, .inl (bA fo))), (aBa, .inl (cyZ, 9, .inl (bA ba))), (aRc, .inl (cyI, 7, .inl (nA (uN y i 0)))), (aN, .inr (1, [.int (nI (t 0)), .int (nI (t 1)), .int (nI (t 2)), .ref aKd, .ref aFi, .ref aSe, .ref aSb, .ref aLd])), (aFi, .inl (cyI, 9, .inl (nA fi))), (aSe, .inl (cyI, 9, .inl (nA se)))] 4 rfl (by omega) (by decide) dX6_spread_14 rfl rfl ?_
      refine j_iinc (v := (nI (i + 1))) (pc' := 18) C [(2, .int (nI (i + 1))), (0, .ref aW), (1, .int (nI wo))] dX6_spread_15 rfl 2 rfl (inc_n i 1) (by decide) rfl ?_
      refine j_goto C 2 dX6_spread_18 (by decide) ?_
      refine j_lsub [(0, .ref aW), (1, .int (nI wo)), (2, .int (nI (i + 1)))] [1, 2, 0] rfl ?_
      exact ih2 (i + 1) (uN y i 0) (⟨by omega, by rw [hy, ← flN_s]; simp only [Nat.zero_add]⟩) (by omega)
  · exact ⟨Nat.zero_le _, (flN_0 _ _ _).symm⟩

set_option maxHeartbeats 4000000 in
set_option maxRecDepth 100000 in
theorem c_X6_fed {lch : Launch} {dG : va_G} {cyI cyZ cyO : ClassId} (aW : Nat) (aSh : Nat) (aN : Nat) (aO : Nat) (aFo : Nat) (aBa : Nat) (aRc : Nat) (gr : Bool) (rc : Nat → Nat) (t : Nat → Nat) (aKd : Nat) (aFi : Nat) (aSe : Nat) (aSb : Nat) (aLd : Nat) (ld : Nat → Nat) (l : Nat) (hT : WT t) (hld : ∀ l, l < t 2 → ld l = t (39 + l)) (hl : l < t 2) : Ki lch yX6_fed cX6_fed 2 .int (rmk 1) dG (cyI, cyZ, cyO) [.ref aW, .int (nI l)] [(aW, .inr (6, [.ref aSh, .ref aN, .ref aO, .ref aFo, .ref aBa, .ref aRc, .int (bI gr)])), (aRc, .inl (cyI, 7, .inl (nA rc))), (aN, .inr (1, [.int (nI (t 0)), .int (nI (t 1)), .int (nI (t 2)), .ref aKd, .ref aFi, .ref aSe, .ref aSb, .ref aLd])), (aLd, .inl (cyI, 3, .inl (nA ld)))] (fun r w1 => w1 = [(aW, .inr (6, [.ref aSh, .ref aN, .ref aO, .ref aFo, .ref aBa, .ref aRc, .int (bI gr)])), (aRc, .inl (cyI, 7, .inl (nA rc))), (aN, .inr (1, [.int (nI (t 0)), .int (nI (t 1)), .int (nI (t 2)), .ref aKd, .ref aFi, .ref aSe, .ref aSb, .ref aLd])), (aLd, .inl (cyI, 3, .inl (nA ld)))] ∧ r = (nI (rc (t (39 + l))))) := by
  have h1 := hT.n
  have h2 := hT.l hl
  refine Ki.of (own := RX6) rfl (by decide) (Nat.le_of_ble_eq_true rfl) (fun p0 e0 s0 m0 ar0 be0 me0 cd0 A0 C hr hk hnm hA => ?_)
  refine j_lsub [(0, .ref aW), (1, .int (nI l))] [0, 1] rfl ?_
  refine j_aload_n (pc' := 1) C dX6_fed_0 rfl 0 rfl ?_
  refine j_get (v := .ref aRc) (pc' := 4) C KX6 0 5 rfl (by decide) fl_X6_22 rfl rfl dX6_fed_1 rfl ?_
  refine j_aload_n (pc' := 5) C dX6_fed_4 rfl 0 rfl ?_
  refine j_get (v := .ref aN) (pc' := 8) C KX6 0 1 rfl (by decide) fl_X6_25 rfl rfl dX6_fed_5 rfl ?_
  refine j_get (v := .ref aLd) (pc' := 11) C KX1 2 7 rfl (by decide) fl_X6_89 rfl rfl dX6_fed_8 rfl ?_
  refine j_iload_n (pc' := 12) C dX6_fed_11 rfl 1 rfl ?_
  refine j_nald (pc' := 13) C 3 rfl (by omega) (by decide) dX6_fed_12 rfl ?_
  refine j_top (nI (t (39 + l))) (by rw [hld l hl]) ?_
  refine j_nald (pc' := 14) C 1 rfl (by omega) (by decide) dX6_fed_13 rfl ?_
  exact j_iret C hr hk hA dX6_fed_14 (rfl) (⟨rfl, rfl⟩)

set_option maxHeartbeats 4000000 in
set_option maxRecDepth 100000 in
theorem c_X6_feedsWithout {lch : Launch} {dG : va_G} {cyI cyZ cyO : ClassId} (aW : Nat) (aSh : Nat) (aN : Nat) (aO : Nat) (aFo : Nat) (aBa : Nat) (aRc : Nat) (gr : Bool) (sh : Nat → Nat) (fo : Nat → Bool) (ba : Nat → Bool) (rc : Nat → Nat) (t : Nat → Nat) (aKd : Nat) (aFi : Nat) (aSe : Nat) (aSb : Nat) (aLd : Nat) (fi : Nat → Nat) (se : Nat → Nat) (ld : Nat → Nat) (s : Nat → Nat) (wo : Nat) (l : Nat) (st : Nat) (hT : WT t) (hfi : ∀ c, c < t 1 → fi c = t (12 + c)) (hse : ∀ c, c < t 1 → se c = t (21 + c)) (hld : ∀ l, l < t 2 → ld l = t (39 + l)) (hL : LDn t s sh fo ba (t 1)) (hwo : wo < 512) (hl : l < t 2) (hst : st < 16) : Ki lch yX6_feedsWithout cX6_feedsWithout 4 .boolean (rmk 4) dG (cyI, cyZ, cyO) [.ref aW, .int (nI wo), .int (nI l), .int (nI st)] [(aW, .inr (6, [.ref aSh, .ref aN, .ref aO, .ref aFo, .ref aBa, .ref aRc, .int (bI gr)])), (aSh, .inl (cyI, 9, .inl (nA sh))), (aFo, .inl (cyZ, 9, .inl (bA fo))), (aBa, .inl (cyZ, 9, .inl (bA ba))), (aRc, .inl (cyI, 7, .inl (nA rc))), (aN, .inr (1, [.int (nI (t 0)), .int (nI (t 1)), .int (nI (t 2)), .ref aKd, .ref aFi, .ref aSe, .ref aSb, .ref aLd])), (aFi, .inl (cyI, 9, .inl (nA fi))), (aSe, .inl (cyI, 9, .inl (nA se))), (aLd, .inl (cyI, 3, .inl (nA ld)))] (fun r w1 => ∃ (rc1 : Nat → Nat), ∃ (g1 : Bool), w1 = [(aW, .inr (6, [.ref aSh, .ref aN, .ref aO, .ref aFo, .ref aBa, .ref aRc, .int (bI g1)])), (aSh, .inl (cyI, 9, .inl (nA sh))), (aFo, .inl (cyZ, 9, .inl (bA fo))), (aBa, .inl (cyZ, 9, .inl (bA ba))), (aRc, .inl (cyI, 7, .inl (nA rc1))), (aN, .inr (1, [.int (nI (t 0)), .int (nI (t 1)), .int (nI (t 2)), .ref aKd, .ref aFi, .ref aSe, .ref aSb, .ref aLd])), (aFi, .inl (cyI, 9, .inl (nA fi))), (aSe, .inl (cyI, 9, .inl (nA se))), (aLd, .inl (cyI, 3, .inl (nA ld)))] ∧ r = (bI (fedB t s l st wo))) := by
  have h1 := hT.n
  have h2 := hT.l hl
  refine Ki.of (own := RX6) rfl (by decide) (Nat.le_of_ble_eq_true rfl) (fun p0 e0 s0 m0 ar0 be0 me0 cd0 A0 C hr hk hnm hA => ?_)
  refine j_lsub [(0, .ref aW), (1, .int (nI wo)), (2, .int (nI l)), (3, .int (nI st))] [0, 1, 2, 3] rfl ?_
  refine j_aload_n (pc' := 1) C dX6_feedsWithout_0 rfl 0 rfl ?_
  refine j_iload_n (pc' := 2) C dX6_feedsWithout_1 rfl 1 rfl ?_
  refine j_cVv (As := [.int (nI wo)]) (wr := [(aLd, .inl (cyI, 3, .inl (nA ld)))]) (pc' := 5) C (c_X6_spread (aW := aW) (aSh := aSh) (aN := aN) (aO := aO) (aFo := aFo) (aBa := aBa) (aRc := aRc) (gr := gr) (sh := sh) (fo := fo) (ba := ba) (rc := rc) (t := t) (aKd := aKd) (aFi := aFi) (aSe := aSe) (aSb := aSb) (aLd := aLd) (fi := fi) (se := se) (s := s) (wo := wo) (hT := by first | assumption | omega) (hfi := by first | assumption | omega) (hse := by first | assumption | omega) (hL := by first | assumption | omega) (hwo := by first | assumption | omega)) Y_X6_spread (ml_X6_92) [0, 1, 2, 3, 4, 5, 6, 7] [8] rfl rfl rfl rfl (by decide) rfl rfl rfl dX6_feedsWithout_2 rfl rfl rfl (Nat.le_of_ble_eq_true rfl) ⟨Nat.le_of_ble_eq_true rfl, Nat.le_of_ble_eq_true rfl⟩ ⟨Nat.le_of_ble_eq_true rfl, Nat.le_of_ble_eq_true rfl⟩ ⟨rfl, rfl⟩ (fun w1 hQ => ?_)
  obtain ⟨rc1_1, g1_1, rfl, hF2⟩ := hQ
  refine j_perm [(aW, .inr (6, [.ref aSh, .ref aN, .ref aO, .ref aFo, .ref aBa, .ref aRc, .int (bI g1_1)])), (aSh, .inl (cyI, 9, .inl (nA sh))), (aFo, .inl (cyZ, 9, .inl (bA fo))), (aBa, .inl (cyZ, 9, .inl (bA ba))), (aRc, .inl (cyI, 7, .inl (nA rc1_1))), (aN, .inr (1, [.int (nI (t 0)), .int (nI (t 1)), .int (nI (t 2)), .ref aKd, .ref aFi, .ref aSe, .ref aSb, .ref aLd])), (aFi, .inl (cyI, 9, .inl (nA fi))), (aSe, .inl (cyI, 9, .inl (nA se))), (aLd, .inl (cyI, 3, .inl (nA ld)))] [1, 2, 3, 4, 5, 6, 7, 8, 0] rfl rfl (by decide) ?_
  refine j_aload_n (pc' := 6) C dX6_feedsWithout_5 rfl 0 rfl ?_
  refine j_iload_n (pc' := 7) C dX6_feedsWithout_6 rfl 2 rfl ?_
  refine j_cVi (As := [.int (nI l)]) (wr := [(aSh, .inl (cyI, 9, .inl (nA sh))), (aFo, .inl (cyZ, 9, .inl (bA fo))), (aBa, .inl (cyZ, 9, .inl (bA ba))), (aFi, .inl (cyI, 9, .inl (nA fi))), (aSe, .inl (cyI, 9, .inl (nA se)))]) (pc' := 10) C (c_X6_fed (aW := aW) (aSh := aSh) (aN := aN) (aO := aO) (aFo := aFo) (aBa := aBa) (aRc := aRc) (gr := g1_1) (rc := rc1_1) (t := t) (aKd := aKd) (aFi := aFi) (aSe := aSe) (aSb := aSb) (aLd := aLd) (ld := ld) (l := l) (hT := by first | assumption | omega) (hld := by first | assumption | omega) (hl := by first | assumption | omega)) Y_X6_fed (ml_X6_95) [0, 4, 5, 8] [1, 2, 3, 6, 7] rfl rfl rfl rfl (by decide) rfl rfl rfl dX6_feedsWithout_7 rfl rfl rfl (Nat.le_of_ble_eq_true rfl) ⟨Nat.le_of_ble_eq_true rfl, Nat.le_of_ble_eq_true rfl⟩ ⟨Nat.le_of_ble_eq_true rfl, Nat.le_of_ble_eq_true rfl⟩ ⟨rfl, rfl⟩ (fun r2 w1 hQ => ?_)
  obtain ⟨rfl, rfl⟩ := hQ
  refine j_perm [(aW, .inr (6, [.ref aSh, .ref aN, .ref aO, .ref aFo, .ref aBa, .ref aRc, .int (bI g1_1)])), (aSh, .inl (cyI, 9, .inl (nA sh))), (aFo, .inl (cyZ, 9, .inl (bA fo))), (aBa, .inl (cyZ, 9, .inl (bA ba))), (aRc, .inl (cyI, 7, .inl (nA rc1_1))), (aN, .inr (1, [.int (nI (t 0)), .int (nI (t 1)), .int (nI (t 2)), .ref aKd, .ref aFi, .ref aSe, .ref aSb, .ref aLd])), (aFi, .inl (cyI, 9, .inl (nA fi))), (aSe, .inl (cyI, 9, .inl (nA se))), (aLd, .inl (cyI, 3, .inl (nA ld)))] [5, 0, 1, 2, 6, 7, 3, 4, 8] rfl rfl (by decide) ?_
  refine j_iload_n (pc' := 11) C dX6_feedsWithout_10 rfl 3 rfl ?_
  refine j_ishr (v := (nI ((rc1_1 (t (39 + l))) >>> st))) (pc' := 12) C dX6_feedsWithout_11 rfl (sh_r (by have := hF2.1 (t (39 + l)) (by omega); omega) (by omega)) ?_
  refine j_iconst (v := (nI 1)) (pc' := 13) C dX6_feedsWithout_12 rfl (by decide +kernel) ?_
  refine j_iand (v := (bI (Nat.testBit (rc1_1 (t (39 + l))) st))) (pc' := 14) C dX6_feedsWithout_13 rfl (tb_bit _ _) ?_
  refine j_b_eq (pc' := 17) C 21 dX6_feedsWithout_14 (by decide) rfl (fun c14 => ?_) (fun c14 => ?_)
  · refine j_iconst (v := (nI 0)) (pc' := 22) C dX6_feedsWithout_21 rfl (by decide +kernel) ?_
    refine j_top (bI false) (by decide +kernel) ?_
    exact j_iret C hr hk hA dX6_feedsWithout_22 (nrw_bI _) (⟨_, _, rfl, by unfold fedB; rw [← hF2.2 (t (39 + l)) (by omega) st hst, c14]⟩)
  · refine j_iconst (v := (nI 1)) (pc' := 18) C dX6_feedsWithout_17 rfl (by decide +kernel) ?_
    refine j_goto C 22 dX6_feedsWithout_18 (by decide) ?_
    refine j_top (bI true) (by decide +kernel) ?_
    exact j_iret C hr hk hA dX6_feedsWithout_22 (nrw_bI _) (⟨_, _, rfl, by unfold fedB; rw [← hF2.2 (t (39 + l)) (by omega) st hst, c14]⟩)

set_option maxHeartbeats 4000000 in
set_option maxRecDepth 100000 in
theorem c_X6_nodeBehind {lch : Launch} {dG : va_G} {cyI cyZ cyO : ClassId} (aW : Nat) (aSh : Nat) (aN : Nat) (aO : Nat) (aFo : Nat) (aBa : Nat) (aRc : Nat) (gr : Bool) (fo : Nat → Bool) (ba : Nat → Bool) (t : Nat → Nat) (aKd : Nat) (aFi : Nat) (aSe : Nat) (aSb : Nat) (aLd : Nat) (fi : Nat → Nat) (se : Nat → Nat) (s : Nat → Nat) (c : Nat) (a : Nat) (hT : WT t) (hfi : ∀ c, c < t 1 → fi c = t (12 + c)) (hse : ∀ c, c < t 1 → se c = t (21 + c)) (hc : c < t 1) (hfo : fo c = wyB t s c false) (hba : ba c = wyB t s c true) (ha : a < 7) : Ki lch yX6_nodeBehind cX6_nodeBehind 3 .int (rmk 1) dG (cyI, cyZ, cyO) [.ref aW, .int (nI c), .int (nI a)] [(aW, .inr (6, [.ref aSh, .ref aN, .ref aO, .ref aFo, .ref aBa, .ref aRc, .int (bI gr)])), (aFo, .inl (cyZ, 9, .inl (bA fo))), (aBa, .inl (cyZ, 9, .inl (bA ba))), (aN, .inr (1, [.int (nI (t 0)), .int (nI (t 1)), .int (nI (t 2)), .ref aKd, .ref aFi, .ref aSe, .ref aSb, .ref aLd])), (aFi, .inl (cyI, 9, .inl (nA fi))), (aSe, .inl (cyI, 9, .inl (nA se)))] (fun r w1 => w1 = [(aW, .inr (6, [.ref aSh, .ref aN, .ref aO, .ref aFo, .ref aBa, .ref aRc, .int (bI gr)])), (aFo, .inl (cyZ, 9, .inl (bA fo))), (aBa, .inl (cyZ, 9, .inl (bA ba))), (aN, .inr (1, [.int (nI (t 0)), .int (nI (t 1)), .int (nI (t 2)), .ref aKd, .ref aFi, .ref aSe, .ref aSb, .ref aLd])), (aFi, .inl (cyI, 9, .inl (nA fi))), (aSe, .inl (cyI, 9, .inl (nA se)))] ∧ ((toB t s c a = none ∧ r = -9) ∨ ∃ v, toB t s c a = some v ∧ r = nI v ∧ v < t 0)) := by
  have h1 := hT.n
  have h2 := hT.c hc
  refine Ki.of (own := RX6) rfl (by decide) (Nat.le_of_ble_eq_true rfl) (fun p0 e0 s0 m0 ar0 be0 me0 cd0 A0 C hr hk hnm hA => ?_)
  refine j_lsub [(0, .ref aW), (1, .int (nI c)), (2, .int (nI a))] [0, 1, 2] rfl ?_
  refine j_aload_n (pc' := 1) C dX6_nodeBehind_0 rfl 0 rfl ?_
  refine j_get (v := .ref aFo) (pc' := 4) C KX6 0 3 rfl (by decide) fl_X6_15 rfl rfl dX6_nodeBehind_1 rfl ?_
  refine j_iload_n (pc' := 5) C dX6_nodeBehind_4 rfl 1 rfl ?_
  refine j_zald (pc' := 6) C 1 rfl (by omega) (by decide) dX6_nodeBehind_5 rfl ?_
  refine j_b_eq (pc' := 9) C 32 dX6_nodeBehind_6 (by decide) rfl (fun c6 => ?_) (fun c6 => ?_)
  · refine j_aload_n (pc' := 33) C dX6_nodeBehind_32 rfl 0 rfl ?_
    refine j_get (v := .ref aBa) (pc' := 36) C KX6 0 4 rfl (by decide) fl_X6_19 rfl rfl dX6_nodeBehind_33 rfl ?_
    refine j_iload_n (pc' := 37) C dX6_nodeBehind_36 rfl 1 rfl ?_
    refine j_zald (pc' := 38) C 2 rfl (by omega) (by decide) dX6_nodeBehind_37 rfl ?_
    refine j_b_eq (pc' := 41) C 66 dX6_nodeBehind_38 (by decide) rfl (fun c38 => ?_) (fun c38 => ?_)
    · refine j_bipush (v := (-9)) (pc' := 68) C dX6_nodeBehind_66 rfl (by decide +kernel) ?_
      exact j_iret C hr hk hA dX6_nodeBehind_68 (rfl) (⟨rfl, Or.inl ⟨by rw [hfo] at c6; rw [hba] at c38; unfold toB; rw [if_neg (by intro q9; simp_all), if_neg (by intro q9; simp_all)], rfl⟩⟩)
    · refine j_aload_n (pc' := 42) C dX6_nodeBehind_41 rfl 0 rfl ?_
      refine j_get (v := .ref aN) (pc' := 45) C KX6 0 1 rfl (by decide) fl_X6_25 rfl rfl dX6_nodeBehind_42 rfl ?_
      refine j_get (v := .ref aSe) (pc' := 48) C KX1 3 5 rfl (by decide) fl_X6_82 rfl rfl dX6_nodeBehind_45 rfl ?_
      refine j_iload_n (pc' := 49) C dX6_nodeBehind_48 rfl 1 rfl ?_
      refine j_nald (pc' := 50) C 5 rfl (by omega) (by decide) dX6_nodeBehind_49 rfl ?_
      refine j_top (nI (t (21 + c))) (by rw [hse c hc]) ?_
      refine j_iload_n (pc' := 51) C dX6_nodeBehind_50 rfl 2 rfl ?_
      refine j_nc_ne (pc' := 54) C 66 dX6_nodeBehind_51 (by decide) rfl (by omega) (by omega) (fun c51 => ?_) (fun c51 => ?_)
      · refine j_bipush (v := (-9)) (pc' := 68) C dX6_nodeBehind_66 rfl (by decide +kernel) ?_
        exact j_iret C hr hk hA dX6_nodeBehind_68 (rfl) (⟨rfl, Or.inl ⟨by rw [hfo] at c6; rw [hba] at c38; unfold toB; rw [if_neg (by intro q9; simp_all), if_neg (by intro q9; simp_all)], rfl⟩⟩)
      · refine j_aload_n (pc' := 55) C dX6_nodeBehind_54 rfl 0 rfl ?_
        refine j_get (v := .ref aN) (pc' := 58) C KX6 0 1 rfl (by decide) fl_X6_25 rfl rfl dX6_nodeBehind_55 rfl ?_
        refine j_get (v := .ref aFi) (pc' := 61) C KX1 3 4 rfl (by decide) fl_X6_79 rfl rfl dX6_nodeBehind_58 rfl ?_
        refine j_iload_n (pc' := 62) C dX6_nodeBehind_61 rfl 1 rfl ?_
        refine j_nald (pc' := 63) C 4 rfl (by omega) (by decide) dX6_nodeBehind_62 rfl ?_
        refine j_top (nI (t (12 + c))) (by rw [hfi c hc]) ?_
        refine j_goto C 68 dX6_nodeBehind_63 (by decide) ?_
        exact j_iret C hr hk hA dX6_nodeBehind_68 (rfl) (⟨rfl, Or.inr ⟨_, by rw [hfo] at c6; rw [hba] at c38; unfold toB; rw [if_neg (by intro q9; simp_all), if_pos ⟨c51, c38⟩], rfl, by omega⟩⟩)
  · refine j_aload_n (pc' := 10) C dX6_nodeBehind_9 rfl 0 rfl ?_
    refine j_get (v := .ref aN) (pc' := 13) C KX6 0 1 rfl (by decide) fl_X6_25 rfl rfl dX6_nodeBehind_10 rfl ?_
    refine j_get (v := .ref aFi) (pc' := 16) C KX1 3 4 rfl (by decide) fl_X6_79 rfl rfl dX6_nodeBehind_13 rfl ?_
    refine j_iload_n (pc' := 17) C dX6_nodeBehind_16 rfl 1 rfl ?_
    refine j_nald (pc' := 18) C 4 rfl (by omega) (by decide) dX6_nodeBehind_17 rfl ?_
    refine j_top (nI (t (12 + c))) (by rw [hfi c hc]) ?_
    refine j_iload_n (pc' := 19) C dX6_nodeBehind_18 rfl 2 rfl ?_
    refine j_nc_ne (pc' := 22) C 32 dX6_nodeBehind_19 (by decide) rfl (by omega) (by omega) (fun c19 => ?_) (fun c19 => ?_)
    · refine j_aload_n (pc' := 33) C dX6_nodeBehind_32 rfl 0 rfl ?_
      refine j_get (v := .ref aBa) (pc' := 36) C KX6 0 4 rfl (by decide) fl_X6_19 rfl rfl dX6_nodeBehind_33 rfl ?_
      refine j_iload_n (pc' := 37) C dX6_nodeBehind_36 rfl 1 rfl ?_
      refine j_zald (pc' := 38) C 2 rfl (by omega) (by decide) dX6_nodeBehind_37 rfl ?_
      refine j_b_eq (pc' := 41) C 66 dX6_nodeBehind_38 (by decide) rfl (fun c38 => ?_) (fun c38 => ?_)
      · refine j_bipush (v := (-9)) (pc' := 68) C dX6_nodeBehind_66 rfl (by decide +kernel) ?_
        exact j_iret C hr hk hA dX6_nodeBehind_68 (rfl) (⟨rfl, Or.inl ⟨by rw [hfo] at c6; rw [hba] at c38; unfold toB; rw [if_neg (by intro q9; simp_all), if_neg (by intro q9; simp_all)], rfl⟩⟩)
      · refine j_aload_n (pc' := 42) C dX6_nodeBehind_41 rfl 0 rfl ?_
        refine j_get (v := .ref aN) (pc' := 45) C KX6 0 1 rfl (by decide) fl_X6_25 rfl rfl dX6_nodeBehind_42 rfl ?_
        refine j_get (v := .ref aSe) (pc' := 48) C KX1 3 5 rfl (by decide) fl_X6_82 rfl rfl dX6_nodeBehind_45 rfl ?_
        refine j_iload_n (pc' := 49) C dX6_nodeBehind_48 rfl 1 rfl ?_
        refine j_nald (pc' := 50) C 5 rfl (by omega) (by decide) dX6_nodeBehind_49 rfl ?_
        refine j_top (nI (t (21 + c))) (by rw [hse c hc]) ?_
        refine j_iload_n (pc' := 51) C dX6_nodeBehind_50 rfl 2 rfl ?_
        refine j_nc_ne (pc' := 54) C 66 dX6_nodeBehind_51 (by decide) rfl (by omega) (by omega) (fun c51 => ?_) (fun c51 => ?_)
        · refine j_bipush (v := (-9)) (pc' := 68) C dX6_nodeBehind_66 rfl (by decide +kernel) ?_
          exact j_iret C hr hk hA dX6_nodeBehind_68 (rfl) (⟨rfl, Or.inl ⟨by rw [hfo] at c6; rw [hba] at c38; unfold toB; rw [if_neg (by intro q9; simp_all), if_neg (by intro q9; simp_all)], rfl⟩⟩)
        · refine j_aload_n (pc' := 55) C dX6_nodeBehind_54 rfl 0 rfl ?_
          refine j_get (v := .ref aN) (pc' := 58) C KX6 0 1 rfl (by decide) fl_X6_25 rfl rfl dX6_nodeBehind_55 rfl ?_
          refine j_get (v := .ref aFi) (pc' := 61) C KX1 3 4 rfl (by decide) fl_X6_79 rfl rfl dX6_nodeBehind_58 rfl ?_
          refine j_iload_n (pc' := 62) C dX6_nodeBehind_61 rfl 1 rfl ?_
          refine j_nald (pc' := 63) C 4 rfl (by omega) (by decide) dX6_nodeBehind_62 rfl ?_
          refine j_top (nI (t (12 + c))) (by rw [hfi c hc]) ?_
          refine j_goto C 68 dX6_nodeBehind_63 (by decide) ?_
          exact j_iret C hr hk hA dX6_nodeBehind_68 (rfl) (⟨rfl, Or.inr ⟨_, by rw [hfo] at c6; rw [hba] at c38; unfold toB; rw [if_neg (by intro q9; simp_all), if_pos ⟨c51, c38⟩], rfl, by omega⟩⟩)
    · refine j_aload_n (pc' := 23) C dX6_nodeBehind_22 rfl 0 rfl ?_
      refine j_get (v := .ref aN) (pc' := 26) C KX6 0 1 rfl (by decide) fl_X6_25 rfl rfl dX6_nodeBehind_23 rfl ?_
      refine j_get (v := .ref aSe) (pc' := 29) C KX1 3 5 rfl (by decide) fl_X6_82 rfl rfl dX6_nodeBehind_26 rfl ?_
      refine j_iload_n (pc' := 30) C dX6_nodeBehind_29 rfl 1 rfl ?_
      refine j_nald (pc' := 31) C 5 rfl (by omega) (by decide) dX6_nodeBehind_30 rfl ?_
      refine j_top (nI (t (21 + c))) (by rw [hse c hc]) ?_
      exact j_iret C hr hk hA dX6_nodeBehind_31 (rfl) (⟨rfl, Or.inr ⟨_, by unfold toB; rw [if_pos ⟨c19, by rw [← hfo]; exact c6⟩], rfl, by omega⟩⟩)
