set_option maxHeartbeats 4000000 in
set_option maxRecDepth 100000 in
theorem c_X8_in {lch : Launch} {dG : va_G} {cyI cyZ cyO : ClassId} (x : Int32) (a : Int32) (b : Int32)  : Ki lch yX8_in cX8_in 3 .boolean (rmk 1) dG (cyI, cyZ, cyO) [.int x, .int a, .int b] [] (fun r w1 => w1 = [] ∧ r = (bI (decide (a.toInt ≤ x.toInt ∧ x.toInt ≤ b.toInt)))) := by
  refine Ki.of (own := RX8) rfl (by decide) (Nat.le_of_ble_eq_true rfl) (fun p0 e0 s0 m0 ar0 be0 me0 cd0 A0 C hr hk hnm hA => ?_)
  refine j_lsub [(0, .int x), (1, .int a), (2, .int b)] [0, 1, 2] rfl ?_
  refine j_iload_n (pc' := 1) C dX8_in_0 rfl 0 rfl ?_
  refine j_iload_n (pc' := 2) C dX8_in_1 rfl 1 rfl ?_
  refine j_ic_lt (pc' := 5) C 14 dX8_in_2 (by decide) rfl (fun c2 => ?_) (fun c2 => ?_)
  · refine j_iconst (v := (nI 0)) (pc' := 15) C dX8_in_14 rfl (by decide +kernel) ?_
    refine j_top (bI false) (by decide +kernel) ?_
    exact j_iret C hr hk hA dX8_in_15 (nrw_bI _) (⟨rfl, bI_f (by simp only [i_lt, i_le] at *; omega)⟩)
  · refine j_iload_n (pc' := 6) C dX8_in_5 rfl 0 rfl ?_
    refine j_iload_n (pc' := 7) C dX8_in_6 rfl 2 rfl ?_
    refine j_ic_gt (pc' := 10) C 14 dX8_in_7 (by decide) rfl (fun c7 => ?_) (fun c7 => ?_)
    · refine j_iconst (v := (nI 0)) (pc' := 15) C dX8_in_14 rfl (by decide +kernel) ?_
      refine j_top (bI false) (by decide +kernel) ?_
      exact j_iret C hr hk hA dX8_in_15 (nrw_bI _) (⟨rfl, bI_f (by simp only [i_lt, i_le] at *; omega)⟩)
    · refine j_iconst (v := (nI 1)) (pc' := 11) C dX8_in_10 rfl (by decide +kernel) ?_
      refine j_goto C 15 dX8_in_11 (by decide) ?_
      refine j_top (bI true) (by decide +kernel) ?_
      exact j_iret C hr hk hA dX8_in_15 (nrw_bI _) (⟨rfl, bI_t (by simp only [i_lt, i_le] at *; omega)⟩)

set_option maxHeartbeats 4000000 in
set_option maxRecDepth 100000 in
theorem c_X8_has {lch : Launch} {dG : va_G} {cyI cyZ cyO : ClassId} (a : Nat) (k : Nat) (ha : a < 2147483648) (hk9 : k < 31) : Ki lch yX8_has cX8_has 2 .boolean (rmk 1) dG (cyI, cyZ, cyO) [.int (nI a), .int (nI k)] [] (fun r w1 => w1 = [] ∧ r = (bI (a.testBit k))) := by
  refine Ki.of (own := RX8) rfl (by decide) (Nat.le_of_ble_eq_true rfl) (fun p0 e0 s0 m0 ar0 be0 me0 cd0 A0 C hr hk hnm hA => ?_)
  refine j_lsub [(0, .int (nI a)), (1, .int (nI k))] [0, 1] rfl ?_
  refine j_iload_n (pc' := 1) C dX8_has_0 rfl 0 rfl ?_
  refine j_iload_n (pc' := 2) C dX8_has_1 rfl 1 rfl ?_
  refine j_ishr (v := (nI (a >>> k))) (pc' := 3) C dX8_has_2 rfl (sh_r (by omega) (by omega)) ?_
  refine j_iconst (v := (nI 1)) (pc' := 4) C dX8_has_3 rfl (by decide +kernel) ?_
  refine j_iand (v := (bI (Nat.testBit a k))) (pc' := 5) C dX8_has_4 rfl (tb_bit _ _) ?_
  refine j_iconst (v := (nI 1)) (pc' := 6) C dX8_has_5 rfl (by decide +kernel) ?_
  refine j_b1_ne (pc' := 9) C 13 dX8_has_6 (by decide) rfl (fun c6 => ?_) (fun c6 => ?_)
  · refine j_iconst (v := (nI 0)) (pc' := 14) C dX8_has_13 rfl (by decide +kernel) ?_
    refine j_top (bI false) (by decide +kernel) ?_
    exact j_iret C hr hk hA dX8_has_14 (nrw_bI _) (⟨rfl, by rw [c6]⟩)
  · refine j_iconst (v := (nI 1)) (pc' := 10) C dX8_has_9 rfl (by decide +kernel) ?_
    refine j_goto C 14 dX8_has_10 (by decide) ?_
    refine j_top (bI true) (by decide +kernel) ?_
    exact j_iret C hr hk hA dX8_has_14 (nrw_bI _) (⟨rfl, by rw [c6]⟩)

set_option maxHeartbeats 4000000 in
set_option maxRecDepth 100000 in
theorem c_X8_isShut {lch : Launch} {dG : va_G} {cyI cyZ cyO : ClassId} (a0 : Nat) (th : Int32) (aX : Nat) (ty : Int32) (sp : Int32) (tk : Int32) (pl : Int32) (va : Int32) (fa : Int32) (aT : Nat) (aD : Nat) (aS : Nat) (aU : Nat) (um : Int32) (aK : Nat) (aI : Nat) (aL : Nat) (aE : Nat) (aF : Nat) (sm : Int32) (aP : Nat) (aW : Nat) (sn : Int32) (aB : Nat) (aM : Nat) (t : Nat → Nat) (s : Nat → Nat) (c : Nat) (st : Nat) (hT : WT t) (hS : WS s) (hc : c < t 1) (hst : st < 16) : Ki lch yX8_isShut cX8_isShut 6 .boolean (rmk 2) dG (cyI, cyZ, cyO) [.ref a0, .int (nI c), .int (nI st)] [(a0, .inr (8, [.int th, .ref aX, .int ty, .int sp, .int tk, .int pl, .int va, .int fa, .ref aT, .ref aD, .ref aS, .ref aU, .int um, .ref aK, .ref aI, .ref aL, .ref aE, .ref aF, .int sm, .ref aP, .ref aW, .int sn, .ref aB, .ref aM])), (aT, .inl (cyI, 42, .inl (nA t))), (aS, .inl (cyI, 30, .inl (nA s)))] (fun r w1 => w1 = [(a0, .inr (8, [.int th, .ref aX, .int ty, .int sp, .int tk, .int pl, .int va, .int fa, .ref aT, .ref aD, .ref aS, .ref aU, .int um, .ref aK, .ref aI, .ref aL, .ref aE, .ref aF, .int sm, .ref aP, .ref aW, .int sn, .ref aB, .ref aM])), (aT, .inl (cyI, 42, .inl (nA t))), (aS, .inl (cyI, 30, .inl (nA s)))] ∧ r = (bI (shB t s c st))) := by
  have h1 := hT.n
  have h2 := hT.c hc
  have h3 := hS.c (c := c) (by omega)
  have hz : ∀ z : Prop, [Decidable z] → z → decide z = true := fun z _ h => decide_eq_true h
  refine Ki.of (own := RX8) rfl (by decide) (Nat.le_of_ble_eq_true rfl) (fun p0 e0 s0 m0 ar0 be0 me0 cd0 A0 C hr hk hnm hA => ?_)
  refine j_lsub [(0, .ref a0), (1, .int (nI c)), (2, .int (nI st))] [0, 1, 2] rfl ?_
  refine j_aload_n (pc' := 1) C dX8_isShut_0 rfl 0 rfl ?_
  refine j_get (v := .ref aS) (pc' := 4) C KX8 0 10 rfl (by decide) fl_X8_19 rfl rfl dX8_isShut_1 rfl ?_
  refine j_bipush (v := (nI 21)) (pc' := 6) C dX8_isShut_4 rfl (by decide +kernel) ?_
  refine j_iload_n (pc' := 7) C dX8_isShut_6 rfl 1 rfl ?_
  refine j_iadd (v := (nI (21 + c))) (pc' := 8) C dX8_isShut_7 rfl (nI_add 21 c) ?_
  refine j_nald (pc' := 9) C 2 rfl (by omega) (by decide) dX8_isShut_8 rfl ?_
  refine j_nz_eq (pc' := 12) C 31 dX8_isShut_9 (by decide) rfl (by omega) (fun c9 => ?_) (fun c9 => ?_)
  · refine j_aload_n (pc' := 32) C dX8_isShut_31 rfl 0 rfl ?_
    refine j_get (v := .ref aT) (pc' := 35) C KX8 0 8 rfl (by decide) fl_X8_13 rfl rfl dX8_isShut_32 rfl ?_
    refine j_iconst (v := (nI 3)) (pc' := 36) C dX8_isShut_35 rfl (by decide +kernel) ?_
    refine j_iload_n (pc' := 37) C dX8_isShut_36 rfl 1 rfl ?_
    refine j_iadd (v := (nI (3 + c))) (pc' := 38) C dX8_isShut_37 rfl (nI_add 3 c) ?_
    refine j_nald (pc' := 39) C 1 rfl (by omega) (by decide) dX8_isShut_38 rfl ?_
    refine j_istore_n (pc' := 40) C [(3, .int (nI (t (3 + c)))), (0, .ref a0), (1, .int (nI c)), (2, .int (nI st))] dX8_isShut_39 rfl (by decide) rfl ?_
    refine j_iload_n (pc' := 41) C dX8_isShut_40 rfl 0 rfl ?_
    refine j_nz_ne (pc' := 44) C 60 dX8_isShut_41 (by decide) rfl (by omega) (fun c41 => ?_) (fun c41 => ?_)
    · refine j_iload_n (pc' := 61) C dX8_isShut_60 rfl 0 rfl ?_
      refine j_iconst (v := (nI 1)) (pc' := 62) C dX8_isShut_61 rfl (by decide +kernel) ?_
      refine j_nc_ne (pc' := 65) C 81 dX8_isShut_62 (by decide) rfl (by omega) (by omega) (fun c62 => ?_) (fun c62 => ?_)
      · refine j_iconst (v := (nI 1)) (pc' := 82) C dX8_isShut_81 rfl (by decide +kernel) ?_
        refine j_goto C 86 dX8_isShut_82 (by decide) ?_
        refine j_istore (pc' := 88) C [(4, .int (nI 1)), (3, .int (nI (t (3 + c)))), (0, .ref a0), (1, .int (nI c)), (2, .int (nI st))] dX8_isShut_86 rfl (by decide) rfl ?_
        refine j_aload_n (pc' := 89) C dX8_isShut_88 rfl 2 rfl ?_
        refine j_get (v := .ref aS) (pc' := 92) C KX8 0 10 rfl (by decide) fl_X8_19 rfl rfl dX8_isShut_89 rfl ?_
        refine j_iconst (v := (nI 3)) (pc' := 93) C dX8_isShut_92 rfl (by decide +kernel) ?_
        refine j_iload_n (pc' := 94) C dX8_isShut_93 rfl 3 rfl ?_
        refine j_iadd (v := (nI (3 + c))) (pc' := 95) C dX8_isShut_94 rfl (nI_add 3 c) ?_
        refine j_nald (pc' := 96) C 2 rfl (by omega) (by decide) dX8_isShut_95 rfl ?_
        refine j_istore (pc' := 98) C [(5, .int (nI (s (3 + c)))), (4, .int (nI 1)), (3, .int (nI (t (3 + c)))), (0, .ref a0), (1, .int (nI c)), (2, .int (nI st))] dX8_isShut_96 rfl (by decide) rfl ?_
        refine j_iload (pc' := 100) C dX8_isShut_98 rfl 1 rfl ?_
        refine j_nz_eq (pc' := 103) C 139 dX8_isShut_100 (by decide) rfl (by omega) (fun c100 => ?_) (fun c100 => ?_)
        · exact absurd c100 (by decide)
        · refine j_iload (pc' := 105) C dX8_isShut_103 rfl 0 rfl ?_
          refine j_iconst (v := (nI 1)) (pc' := 106) C dX8_isShut_105 rfl (by decide +kernel) ?_
          refine j_nc_gt (pc' := 109) C 135 dX8_isShut_106 (by decide) rfl (by omega) (by omega) (fun c106 => ?_) (fun c106 => ?_)
          · refine j_iconst (v := (nI 1)) (pc' := 136) C dX8_isShut_135 rfl (by decide +kernel) ?_
            refine j_goto C 140 dX8_isShut_136 (by decide) ?_
            refine j_top (bI true) (by decide +kernel) ?_
            exact j_iret C hr hk hA dX8_isShut_140 (nrw_bI _) (⟨rfl, by unfold shB; simp_all <;> exact bI_f (by omega)⟩)
          · refine j_iload_n (pc' := 110) C dX8_isShut_109 rfl 5 rfl ?_
            refine j_aload_n (pc' := 111) C dX8_isShut_110 rfl 3 rfl ?_
            refine j_get (v := .ref aS) (pc' := 114) C KX8 0 10 rfl (by decide) fl_X8_19 rfl rfl dX8_isShut_111 rfl ?_
            refine j_bipush (v := (nI 12)) (pc' := 116) C dX8_isShut_114 rfl (by decide +kernel) ?_
            refine j_iload_n (pc' := 117) C dX8_isShut_116 rfl 4 rfl ?_
            refine j_iadd (v := (nI (12 + c))) (pc' := 118) C dX8_isShut_117 rfl (nI_add 12 c) ?_
            refine j_nald (pc' := 119) C 2 rfl (by omega) (by decide) dX8_isShut_118 rfl ?_
            refine j_cSi (As := [.int (nI st), .int (nI (s (12 + c)))]) (wr := [(a0, .inr (8, [.int th, .ref aX, .int ty, .int sp, .int tk, .int pl, .int va, .int fa, .ref aT, .ref aD, .ref aS, .ref aU, .int um, .ref aK, .ref aI, .ref aL, .ref aE, .ref aF, .int sm, .ref aP, .ref aW, .int sn, .ref aB, .ref aM])), (aT, .inl (cyI, 42, .inl (nA t))), (aS, .inl (cyI, 30, .inl (nA s)))]) (pc' := 122) C (c_X8_has (a := st) (k := s (12 + c)) (ha := by omega) (hk9 := by omega)) Y_X8_has (ml_X8_130) [] [0, 1, 2] rfl rfl rfl rfl (by decide) dX8_isShut_119 rfl rfl rfl (Nat.le_of_ble_eq_true rfl) ⟨Nat.le_of_ble_eq_true rfl, Nat.le_of_ble_eq_true rfl⟩ ⟨Nat.le_of_ble_eq_true rfl, Nat.le_of_ble_eq_true rfl⟩ ⟨rfl, rfl⟩ (fun r1 w1 hQ => ?_)
            obtain ⟨rfl, rfl⟩ := hQ
            refine j_perm [(a0, .inr (8, [.int th, .ref aX, .int ty, .int sp, .int tk, .int pl, .int va, .int fa, .ref aT, .ref aD, .ref aS, .ref aU, .int um, .ref aK, .ref aI, .ref aL, .ref aE, .ref aF, .int sm, .ref aP, .ref aW, .int sn, .ref aB, .ref aM])), (aT, .inl (cyI, 42, .inl (nA t))), (aS, .inl (cyI, 30, .inl (nA s)))] [0, 1, 2] rfl rfl (by decide) ?_
            refine j_iload (pc' := 124) C dX8_isShut_122 rfl 0 rfl ?_
            refine j_nz_ne (pc' := 127) C 131 dX8_isShut_124 (by decide) rfl (by omega) (fun c124 => ?_) (fun c124 => ?_)
            · refine j_iconst (v := (nI 0)) (pc' := 132) C dX8_isShut_131 rfl (by decide +kernel) ?_
              refine j_b0_ne (pc' := 135) C 139 dX8_isShut_132 (by decide) rfl (fun c132 => ?_) (fun c132 => ?_)
              · refine j_iconst (v := (nI 0)) (pc' := 140) C dX8_isShut_139 rfl (by decide +kernel) ?_
                refine j_top (bI false) (by decide +kernel) ?_
                exact j_iret C hr hk hA dX8_isShut_140 (nrw_bI _) (⟨rfl, by unfold shB; simp_all <;> exact bI_f (by omega)⟩)
              · refine j_iconst (v := (nI 1)) (pc' := 136) C dX8_isShut_135 rfl (by decide +kernel) ?_
                refine j_goto C 140 dX8_isShut_136 (by decide) ?_
                refine j_top (bI true) (by decide +kernel) ?_
                exact j_iret C hr hk hA dX8_isShut_140 (nrw_bI _) (⟨rfl, by unfold shB; simp_all <;> exact bI_f (by omega)⟩)
            · refine j_iconst (v := (nI 1)) (pc' := 128) C dX8_isShut_127 rfl (by decide +kernel) ?_
              refine j_goto C 132 dX8_isShut_128 (by decide) ?_
              refine j_b1_ne (pc' := 135) C 139 dX8_isShut_132 (by decide) rfl (fun c132 => ?_) (fun c132 => ?_)
              · refine j_iconst (v := (nI 0)) (pc' := 140) C dX8_isShut_139 rfl (by decide +kernel) ?_
                refine j_top (bI false) (by decide +kernel) ?_
                exact j_iret C hr hk hA dX8_isShut_140 (nrw_bI _) (⟨rfl, by unfold shB; simp_all <;> exact bI_f (by omega)⟩)
              · refine j_iconst (v := (nI 1)) (pc' := 136) C dX8_isShut_135 rfl (by decide +kernel) ?_
                refine j_goto C 140 dX8_isShut_136 (by decide) ?_
                refine j_top (bI true) (by decide +kernel) ?_
                exact j_iret C hr hk hA dX8_isShut_140 (nrw_bI _) (⟨rfl, by unfold shB; simp_all <;> exact bI_f (by omega)⟩)
      · refine j_iload_n (pc' := 66) C dX8_isShut_65 rfl 3 rfl ?_
        refine j_aload_n (pc' := 67) C dX8_isShut_66 rfl 1 rfl ?_
        refine j_get (v := .ref aT) (pc' := 70) C KX8 0 8 rfl (by decide) fl_X8_13 rfl rfl dX8_isShut_67 rfl ?_
        refine j_bipush (v := (nI 30)) (pc' := 72) C dX8_isShut_70 rfl (by decide +kernel) ?_
        refine j_iload_n (pc' := 73) C dX8_isShut_72 rfl 2 rfl ?_
        refine j_iadd (v := (nI (30 + c))) (pc' := 74) C dX8_isShut_73 rfl (nI_add 30 c) ?_
        refine j_nald (pc' := 75) C 1 rfl (by omega) (by decide) dX8_isShut_74 rfl ?_
        refine j_cSi (As := [.int (nI st), .int (nI (t (30 + c)))]) (wr := [(a0, .inr (8, [.int th, .ref aX, .int ty, .int sp, .int tk, .int pl, .int va, .int fa, .ref aT, .ref aD, .ref aS, .ref aU, .int um, .ref aK, .ref aI, .ref aL, .ref aE, .ref aF, .int sm, .ref aP, .ref aW, .int sn, .ref aB, .ref aM])), (aT, .inl (cyI, 42, .inl (nA t))), (aS, .inl (cyI, 30, .inl (nA s)))]) (pc' := 78) C (c_X8_has (a := st) (k := t (30 + c)) (ha := by omega) (hk9 := by omega)) Y_X8_has (ml_X8_130) [] [0, 1, 2] rfl rfl rfl rfl (by decide) dX8_isShut_75 rfl rfl rfl (Nat.le_of_ble_eq_true rfl) ⟨Nat.le_of_ble_eq_true rfl, Nat.le_of_ble_eq_true rfl⟩ ⟨Nat.le_of_ble_eq_true rfl, Nat.le_of_ble_eq_true rfl⟩ ⟨rfl, rfl⟩ (fun r2 w1 hQ => ?_)
        obtain ⟨rfl, rfl⟩ := hQ
        refine j_perm [(a0, .inr (8, [.int th, .ref aX, .int ty, .int sp, .int tk, .int pl, .int va, .int fa, .ref aT, .ref aD, .ref aS, .ref aU, .int um, .ref aK, .ref aI, .ref aL, .ref aE, .ref aF, .int sm, .ref aP, .ref aW, .int sn, .ref aB, .ref aM])), (aT, .inl (cyI, 42, .inl (nA t))), (aS, .inl (cyI, 30, .inl (nA s)))] [0, 1, 2] rfl rfl (by decide) ?_
        refine j_b_ne (pc' := 81) C 85 dX8_isShut_78 (by decide) rfl (fun c78 => ?_) (fun c78 => ?_)
        · refine j_iconst (v := (nI 0)) (pc' := 86) C dX8_isShut_85 rfl (by decide +kernel) ?_
          refine j_istore (pc' := 88) C [(4, .int (nI 0)), (3, .int (nI (t (3 + c)))), (0, .ref a0), (1, .int (nI c)), (2, .int (nI st))] dX8_isShut_86 rfl (by decide) rfl ?_
          refine j_aload_n (pc' := 89) C dX8_isShut_88 rfl 2 rfl ?_
          refine j_get (v := .ref aS) (pc' := 92) C KX8 0 10 rfl (by decide) fl_X8_19 rfl rfl dX8_isShut_89 rfl ?_
          refine j_iconst (v := (nI 3)) (pc' := 93) C dX8_isShut_92 rfl (by decide +kernel) ?_
          refine j_iload_n (pc' := 94) C dX8_isShut_93 rfl 3 rfl ?_
          refine j_iadd (v := (nI (3 + c))) (pc' := 95) C dX8_isShut_94 rfl (nI_add 3 c) ?_
          refine j_nald (pc' := 96) C 2 rfl (by omega) (by decide) dX8_isShut_95 rfl ?_
          refine j_istore (pc' := 98) C [(5, .int (nI (s (3 + c)))), (4, .int (nI 0)), (3, .int (nI (t (3 + c)))), (0, .ref a0), (1, .int (nI c)), (2, .int (nI st))] dX8_isShut_96 rfl (by decide) rfl ?_
          refine j_iload (pc' := 100) C dX8_isShut_98 rfl 1 rfl ?_
          refine j_nz_eq (pc' := 103) C 139 dX8_isShut_100 (by decide) rfl (by omega) (fun c100 => ?_) (fun c100 => ?_)
          · refine j_iconst (v := (nI 0)) (pc' := 140) C dX8_isShut_139 rfl (by decide +kernel) ?_
            refine j_top (bI false) (by decide +kernel) ?_
            exact j_iret C hr hk hA dX8_isShut_140 (nrw_bI _) (⟨rfl, by unfold shB; simp_all <;> exact bI_f (by omega)⟩)
          · exact absurd c100 (by decide)
        · refine j_iconst (v := (nI 1)) (pc' := 82) C dX8_isShut_81 rfl (by decide +kernel) ?_
          refine j_goto C 86 dX8_isShut_82 (by decide) ?_
          refine j_istore (pc' := 88) C [(4, .int (nI 1)), (3, .int (nI (t (3 + c)))), (0, .ref a0), (1, .int (nI c)), (2, .int (nI st))] dX8_isShut_86 rfl (by decide) rfl ?_
          refine j_aload_n (pc' := 89) C dX8_isShut_88 rfl 2 rfl ?_
          refine j_get (v := .ref aS) (pc' := 92) C KX8 0 10 rfl (by decide) fl_X8_19 rfl rfl dX8_isShut_89 rfl ?_
          refine j_iconst (v := (nI 3)) (pc' := 93) C dX8_isShut_92 rfl (by decide +kernel) ?_
          refine j_iload_n (pc' := 94) C dX8_isShut_93 rfl 3 rfl ?_
          refine j_iadd (v := (nI (3 + c))) (pc' := 95) C dX8_isShut_94 rfl (nI_add 3 c) ?_
          refine j_nald (pc' := 96) C 2 rfl (by omega) (by decide) dX8_isShut_95 rfl ?_
          refine j_istore (pc' := 98) C [(5, .int (nI (s (3 + c)))), (4, .int (nI 1)), (3, .int (nI (t (3 + c)))), (0, .ref a0), (1, .int (nI c)), (2, .int (nI st))] dX8_isShut_96 rfl (by decide) rfl ?_
          refine j_iload (pc' := 100) C dX8_isShut_98 rfl 1 rfl ?_
          refine j_nz_eq (pc' := 103) C 139 dX8_isShut_100 (by decide) rfl (by omega) (fun c100 => ?_) (fun c100 => ?_)
          · exact absurd c100 (by decide)
          · refine j_iload (pc' := 105) C dX8_isShut_103 rfl 0 rfl ?_
            refine j_iconst (v := (nI 1)) (pc' := 106) C dX8_isShut_105 rfl (by decide +kernel) ?_
            refine j_nc_gt (pc' := 109) C 135 dX8_isShut_106 (by decide) rfl (by omega) (by omega) (fun c106 => ?_) (fun c106 => ?_)
            · refine j_iconst (v := (nI 1)) (pc' := 136) C dX8_isShut_135 rfl (by decide +kernel) ?_
              refine j_goto C 140 dX8_isShut_136 (by decide) ?_
              refine j_top (bI true) (by decide +kernel) ?_
              exact j_iret C hr hk hA dX8_isShut_140 (nrw_bI _) (⟨rfl, by unfold shB; simp_all <;> exact bI_f (by omega)⟩)
            · refine j_iload_n (pc' := 110) C dX8_isShut_109 rfl 5 rfl ?_
              refine j_aload_n (pc' := 111) C dX8_isShut_110 rfl 3 rfl ?_
              refine j_get (v := .ref aS) (pc' := 114) C KX8 0 10 rfl (by decide) fl_X8_19 rfl rfl dX8_isShut_111 rfl ?_
              refine j_bipush (v := (nI 12)) (pc' := 116) C dX8_isShut_114 rfl (by decide +kernel) ?_
              refine j_iload_n (pc' := 117) C dX8_isShut_116 rfl 4 rfl ?_
              refine j_iadd (v := (nI (12 + c))) (pc' := 118) C dX8_isShut_117 rfl (nI_add 12 c) ?_
              refine j_nald (pc' := 119) C 2 rfl (by omega) (by decide) dX8_isShut_118 rfl ?_
              refine j_cSi (As := [.int (nI st), .int (nI (s (12 + c)))]) (wr := [(a0, .inr (8, [.int th, .ref aX, .int ty, .int sp, .int tk, .int pl, .int va, .int fa, .ref aT, .ref aD, .ref aS, .ref aU, .int um, .ref aK, .ref aI, .ref aL, .ref aE, .ref aF, .int sm, .ref aP, .ref aW, .int sn, .ref aB, .ref aM])), (aT, .inl (cyI, 42, .inl (nA t))), (aS, .inl (cyI, 30, .inl (nA s)))]) (pc' := 122) C (c_X8_has (a := st) (k := s (12 + c)) (ha := by omega) (hk9 := by omega)) Y_X8_has (ml_X8_130) [] [0, 1, 2] rfl rfl rfl rfl (by decide) dX8_isShut_119 rfl rfl rfl (Nat.le_of_ble_eq_true rfl) ⟨Nat.le_of_ble_eq_true rfl, Nat.le_of_ble_eq_true rfl⟩ ⟨Nat.le_of_ble_eq_true rfl, Nat.le_of_ble_eq_true rfl⟩ ⟨rfl, rfl⟩ (fun r3 w1 hQ => ?_)
              obtain ⟨rfl, rfl⟩ := hQ
              refine j_perm [(a0, .inr (8, [.int th, .ref aX, .int ty, .int sp, .int tk, .int pl, .int va, .int fa, .ref aT, .ref aD, .ref aS, .ref aU, .int um, .ref aK, .ref aI, .ref aL, .ref aE, .ref aF, .int sm, .ref aP, .ref aW, .int sn, .ref aB, .ref aM])), (aT, .inl (cyI, 42, .inl (nA t))), (aS, .inl (cyI, 30, .inl (nA s)))] [0, 1, 2] rfl rfl (by decide) ?_
              refine j_iload (pc' := 124) C dX8_isShut_122 rfl 0 rfl ?_
              refine j_nz_ne (pc' := 127) C 131 dX8_isShut_124 (by decide) rfl (by omega) (fun c124 => ?_) (fun c124 => ?_)
              · refine j_iconst (v := (nI 0)) (pc' := 132) C dX8_isShut_131 rfl (by decide +kernel) ?_
                refine j_b0_ne (pc' := 135) C 139 dX8_isShut_132 (by decide) rfl (fun c132 => ?_) (fun c132 => ?_)
                · refine j_iconst (v := (nI 0)) (pc' := 140) C dX8_isShut_139 rfl (by decide +kernel) ?_
                  refine j_top (bI false) (by decide +kernel) ?_
                  exact j_iret C hr hk hA dX8_isShut_140 (nrw_bI _) (⟨rfl, by unfold shB; simp_all <;> exact bI_f (by omega)⟩)
                · refine j_iconst (v := (nI 1)) (pc' := 136) C dX8_isShut_135 rfl (by decide +kernel) ?_
                  refine j_goto C 140 dX8_isShut_136 (by decide) ?_
                  refine j_top (bI true) (by decide +kernel) ?_
                  exact j_iret C hr hk hA dX8_isShut_140 (nrw_bI _) (⟨rfl, by unfold shB; simp_all <;> exact bI_f (by omega)⟩)
              · refine j_iconst (v := (nI 1)) (pc' := 128) C dX8_isShut_127 rfl (by decide +kernel) ?_
                refine j_goto C 132 dX8_isShut_128 (by decide) ?_
                refine j_b1_ne (pc' := 135) C 139 dX8_isShut_132 (by decide) rfl (fun c132 => ?_) (fun c132 => ?_)
                · refine j_iconst (v := (nI 0)) (pc' := 140) C dX8_isShut_139 rfl (by decide +kernel) ?_
                  refine j_top (bI false) (by decide +kernel) ?_
                  exact j_iret C hr hk hA dX8_isShut_140 (nrw_bI _) (⟨rfl, by unfold shB; simp_all <;> exact bI_f (by omega)⟩)
                · refine j_iconst (v := (nI 1)) (pc' := 136) C dX8_isShut_135 rfl (by decide +kernel) ?_
                  refine j_goto C 140 dX8_isShut_136 (by decide) ?_
                  refine j_top (bI true) (by decide +kernel) ?_
                  exact j_iret C hr hk hA dX8_isShut_140 (nrw_bI _) (⟨rfl, by unfold shB; simp_all <;> exact bI_f (by omega)⟩)
    · refine j_iload_n (pc' := 45) C dX8_isShut_44 rfl 3 rfl ?_
      refine j_aload_n (pc' := 46) C dX8_isShut_45 rfl 1 rfl ?_
      refine j_get (v := .ref aT) (pc' := 49) C KX8 0 8 rfl (by decide) fl_X8_13 rfl rfl dX8_isShut_46 rfl ?_
      refine j_bipush (v := (nI 30)) (pc' := 51) C dX8_isShut_49 rfl (by decide +kernel) ?_
      refine j_iload_n (pc' := 52) C dX8_isShut_51 rfl 2 rfl ?_
      refine j_iadd (v := (nI (30 + c))) (pc' := 53) C dX8_isShut_52 rfl (nI_add 30 c) ?_
      refine j_nald (pc' := 54) C 1 rfl (by omega) (by decide) dX8_isShut_53 rfl ?_
      refine j_cSi (As := [.int (nI st), .int (nI (t (30 + c)))]) (wr := [(a0, .inr (8, [.int th, .ref aX, .int ty, .int sp, .int tk, .int pl, .int va, .int fa, .ref aT, .ref aD, .ref aS, .ref aU, .int um, .ref aK, .ref aI, .ref aL, .ref aE, .ref aF, .int sm, .ref aP, .ref aW, .int sn, .ref aB, .ref aM])), (aT, .inl (cyI, 42, .inl (nA t))), (aS, .inl (cyI, 30, .inl (nA s)))]) (pc' := 57) C (c_X8_has (a := st) (k := t (30 + c)) (ha := by omega) (hk9 := by omega)) Y_X8_has (ml_X8_130) [] [0, 1, 2] rfl rfl rfl rfl (by decide) dX8_isShut_54 rfl rfl rfl (Nat.le_of_ble_eq_true rfl) ⟨Nat.le_of_ble_eq_true rfl, Nat.le_of_ble_eq_true rfl⟩ ⟨Nat.le_of_ble_eq_true rfl, Nat.le_of_ble_eq_true rfl⟩ ⟨rfl, rfl⟩ (fun r4 w1 hQ => ?_)
      obtain ⟨rfl, rfl⟩ := hQ
      refine j_perm [(a0, .inr (8, [.int th, .ref aX, .int ty, .int sp, .int tk, .int pl, .int va, .int fa, .ref aT, .ref aD, .ref aS, .ref aU, .int um, .ref aK, .ref aI, .ref aL, .ref aE, .ref aF, .int sm, .ref aP, .ref aW, .int sn, .ref aB, .ref aM])), (aT, .inl (cyI, 42, .inl (nA t))), (aS, .inl (cyI, 30, .inl (nA s)))] [0, 1, 2] rfl rfl (by decide) ?_
      refine j_goto C 86 dX8_isShut_57 (by decide) ?_
      refine j_istore (pc' := 88) C [(4, .int (bI (st.testBit (t (30 + c))))), (3, .int (nI (t (3 + c)))), (0, .ref a0), (1, .int (nI c)), (2, .int (nI st))] dX8_isShut_86 rfl (by decide) rfl ?_
      refine j_aload_n (pc' := 89) C dX8_isShut_88 rfl 2 rfl ?_
      refine j_get (v := .ref aS) (pc' := 92) C KX8 0 10 rfl (by decide) fl_X8_19 rfl rfl dX8_isShut_89 rfl ?_
      refine j_iconst (v := (nI 3)) (pc' := 93) C dX8_isShut_92 rfl (by decide +kernel) ?_
      refine j_iload_n (pc' := 94) C dX8_isShut_93 rfl 3 rfl ?_
      refine j_iadd (v := (nI (3 + c))) (pc' := 95) C dX8_isShut_94 rfl (nI_add 3 c) ?_
      refine j_nald (pc' := 96) C 2 rfl (by omega) (by decide) dX8_isShut_95 rfl ?_
      refine j_istore (pc' := 98) C [(5, .int (nI (s (3 + c)))), (4, .int (bI (st.testBit (t (30 + c))))), (3, .int (nI (t (3 + c)))), (0, .ref a0), (1, .int (nI c)), (2, .int (nI st))] dX8_isShut_96 rfl (by decide) rfl ?_
      refine j_iload (pc' := 100) C dX8_isShut_98 rfl 1 rfl ?_
      refine j_b_eq (pc' := 103) C 139 dX8_isShut_100 (by decide) rfl (fun c100 => ?_) (fun c100 => ?_)
      · refine j_iconst (v := (nI 0)) (pc' := 140) C dX8_isShut_139 rfl (by decide +kernel) ?_
        refine j_top (bI false) (by decide +kernel) ?_
        exact j_iret C hr hk hA dX8_isShut_140 (nrw_bI _) (⟨rfl, by unfold shB; simp_all <;> exact bI_f (by omega)⟩)
      · refine j_iload (pc' := 105) C dX8_isShut_103 rfl 0 rfl ?_
        refine j_iconst (v := (nI 1)) (pc' := 106) C dX8_isShut_105 rfl (by decide +kernel) ?_
        refine j_nc_gt (pc' := 109) C 135 dX8_isShut_106 (by decide) rfl (by omega) (by omega) (fun c106 => ?_) (fun c106 => ?_)
        · refine j_iconst (v := (nI 1)) (pc' := 136) C dX8_isShut_135 rfl (by decide +kernel) ?_
          refine j_goto C 140 dX8_isShut_136 (by decide) ?_
          refine j_top (bI true) (by decide +kernel) ?_
          exact j_iret C hr hk hA dX8_isShut_140 (nrw_bI _) (⟨rfl, by unfold shB; simp_all <;> exact bI_f (by omega)⟩)
        · refine j_iload_n (pc' := 110) C dX8_isShut_109 rfl 5 rfl ?_
          refine j_aload_n (pc' := 111) C dX8_isShut_110 rfl 3 rfl ?_
          refine j_get (v := .ref aS) (pc' := 114) C KX8 0 10 rfl (by decide) fl_X8_19 rfl rfl dX8_isShut_111 rfl ?_
          refine j_bipush (v := (nI 12)) (pc' := 116) C dX8_isShut_114 rfl (by decide +kernel) ?_
          refine j_iload_n (pc' := 117) C dX8_isShut_116 rfl 4 rfl ?_
          refine j_iadd (v := (nI (12 + c))) (pc' := 118) C dX8_isShut_117 rfl (nI_add 12 c) ?_
          refine j_nald (pc' := 119) C 2 rfl (by omega) (by decide) dX8_isShut_118 rfl ?_
          refine j_cSi (As := [.int (nI st), .int (nI (s (12 + c)))]) (wr := [(a0, .inr (8, [.int th, .ref aX, .int ty, .int sp, .int tk, .int pl, .int va, .int fa, .ref aT, .ref aD, .ref aS, .ref aU, .int um, .ref aK, .ref aI, .ref aL, .ref aE, .ref aF, .int sm, .ref aP, .ref aW, .int sn, .ref aB, .ref aM])), (aT, .inl (cyI, 42, .inl (nA t))), (aS, .inl (cyI, 30, .inl (nA s)))]) (pc' := 122) C (c_X8_has (a := st) (k := s (12 + c)) (ha := by omega) (hk9 := by omega)) Y_X8_has (ml_X8_130) [] [0, 1, 2] rfl rfl rfl rfl (by decide) dX8_isShut_119 rfl rfl rfl (Nat.le_of_ble_eq_true rfl) ⟨Nat.le_of_ble_eq_true rfl, Nat.le_of_ble_eq_true rfl⟩ ⟨Nat.le_of_ble_eq_true rfl, Nat.le_of_ble_eq_true rfl⟩ ⟨rfl, rfl⟩ (fun r5 w1 hQ => ?_)
          obtain ⟨rfl, rfl⟩ := hQ
          refine j_perm [(a0, .inr (8, [.int th, .ref aX, .int ty, .int sp, .int tk, .int pl, .int va, .int fa, .ref aT, .ref aD, .ref aS, .ref aU, .int um, .ref aK, .ref aI, .ref aL, .ref aE, .ref aF, .int sm, .ref aP, .ref aW, .int sn, .ref aB, .ref aM])), (aT, .inl (cyI, 42, .inl (nA t))), (aS, .inl (cyI, 30, .inl (nA s)))] [0, 1, 2] rfl rfl (by decide) ?_
          refine j_iload (pc' := 124) C dX8_isShut_122 rfl 0 rfl ?_
          refine j_nz_ne (pc' := 127) C 131 dX8_isShut_124 (by decide) rfl (by omega) (fun c124 => ?_) (fun c124 => ?_)
          · refine j_iconst (v := (nI 0)) (pc' := 132) C dX8_isShut_131 rfl (by decide +kernel) ?_
            refine j_b0_ne (pc' := 135) C 139 dX8_isShut_132 (by decide) rfl (fun c132 => ?_) (fun c132 => ?_)
            · refine j_iconst (v := (nI 0)) (pc' := 140) C dX8_isShut_139 rfl (by decide +kernel) ?_
              refine j_top (bI false) (by decide +kernel) ?_
              exact j_iret C hr hk hA dX8_isShut_140 (nrw_bI _) (⟨rfl, by unfold shB; simp_all <;> exact bI_f (by omega)⟩)
            · refine j_iconst (v := (nI 1)) (pc' := 136) C dX8_isShut_135 rfl (by decide +kernel) ?_
              refine j_goto C 140 dX8_isShut_136 (by decide) ?_
              refine j_top (bI true) (by decide +kernel) ?_
              exact j_iret C hr hk hA dX8_isShut_140 (nrw_bI _) (⟨rfl, by unfold shB; simp_all <;> exact bI_f (by omega)⟩)
          · refine j_iconst (v := (nI 1)) (pc' := 128) C dX8_isShut_127 rfl (by decide +kernel) ?_
            refine j_goto C 132 dX8_isShut_128 (by decide) ?_
            refine j_b1_ne (pc' := 135) C 139 dX8_isShut_132 (by decide) rfl (fun c132 => ?_) (fun c132 => ?_)
            · refine j_iconst (v := (nI 0)) (pc' := 140) C dX8_isShut_139 rfl (by decide +kernel) ?_
              refine j_top (bI false) (by decide +kernel) ?_
              exact j_iret C hr hk hA dX8_isShut_140 (nrw_bI _) (⟨rfl, by unfold shB; simp_all <;> exact bI_f (by omega)⟩)
            · refine j_iconst (v := (nI 1)) (pc' := 136) C dX8_isShut_135 rfl (by decide +kernel) ?_
              refine j_goto C 140 dX8_isShut_136 (by decide) ?_
              refine j_top (bI true) (by decide +kernel) ?_
              exact j_iret C hr hk hA dX8_isShut_140 (nrw_bI _) (⟨rfl, by unfold shB; simp_all <;> exact bI_f (by omega)⟩)
  · refine j_aload_n (pc' := 13) C dX8_isShut_12 rfl 0 rfl ?_
    refine j_get (v := .ref aS) (pc' := 16) C KX8 0 10 rfl (by decide) fl_X8_19 rfl rfl dX8_isShut_13 rfl ?_
    refine j_bipush (v := (nI 21)) (pc' := 18) C dX8_isShut_16 rfl (by decide +kernel) ?_
    refine j_iload_n (pc' := 19) C dX8_isShut_18 rfl 1 rfl ?_
    refine j_iadd (v := (nI (21 + c))) (pc' := 20) C dX8_isShut_19 rfl (nI_add 21 c) ?_
    refine j_nald (pc' := 21) C 2 rfl (by omega) (by decide) dX8_isShut_20 rfl ?_
    refine j_iconst (v := (nI 2)) (pc' := 22) C dX8_isShut_21 rfl (by decide +kernel) ?_
    refine j_nc_ne (pc' := 25) C 29 dX8_isShut_22 (by decide) rfl (by omega) (by omega) (fun c22 => ?_) (fun c22 => ?_)
    · refine j_iconst (v := (nI 0)) (pc' := 30) C dX8_isShut_29 rfl (by decide +kernel) ?_
      refine j_top (bI false) (by decide +kernel) ?_
      exact j_iret C hr hk hA dX8_isShut_30 (nrw_bI _) (⟨rfl, by unfold shB; simp [*]⟩)
    · refine j_iconst (v := (nI 1)) (pc' := 26) C dX8_isShut_25 rfl (by decide +kernel) ?_
      refine j_goto C 30 dX8_isShut_26 (by decide) ?_
      refine j_top (bI true) (by decide +kernel) ?_
      exact j_iret C hr hk hA dX8_isShut_30 (nrw_bI _) (⟨rfl, by unfold shB; simp [*]⟩)

set_option maxHeartbeats 4000000 in
set_option maxRecDepth 100000 in
theorem c_X8_isWay {lch : Launch} {dG : va_G} {cyI cyZ cyO : ClassId} (a0 : Nat) (th : Int32) (aX : Nat) (ty : Int32) (sp : Int32) (tk : Int32) (pl : Int32) (va : Int32) (fa : Int32) (aT : Nat) (aD : Nat) (aS : Nat) (aU : Nat) (um : Int32) (aK : Nat) (aI : Nat) (aL : Nat) (aE : Nat) (aF : Nat) (sm : Int32) (aP : Nat) (aW : Nat) (sn : Int32) (aB : Nat) (aM : Nat) (t : Nat → Nat) (s : Nat → Nat) (c : Nat) (bk : Bool) (hT : WT t) (hS : WS s) (hc : c < t 1) : Ki lch yX8_isWay cX8_isWay 3 .boolean (rmk 2) dG (cyI, cyZ, cyO) [.ref a0, .int (nI c), .int (bI bk)] [(a0, .inr (8, [.int th, .ref aX, .int ty, .int sp, .int tk, .int pl, .int va, .int fa, .ref aT, .ref aD, .ref aS, .ref aU, .int um, .ref aK, .ref aI, .ref aL, .ref aE, .ref aF, .int sm, .ref aP, .ref aW, .int sn, .ref aB, .ref aM])), (aT, .inl (cyI, 42, .inl (nA t))), (aS, .inl (cyI, 30, .inl (nA s)))] (fun r w1 => w1 = [(a0, .inr (8, [.int th, .ref aX, .int ty, .int sp, .int tk, .int pl, .int va, .int fa, .ref aT, .ref aD, .ref aS, .ref aU, .int um, .ref aK, .ref aI, .ref aL, .ref aE, .ref aF, .int sm, .ref aP, .ref aW, .int sn, .ref aB, .ref aM])), (aT, .inl (cyI, 42, .inl (nA t))), (aS, .inl (cyI, 30, .inl (nA s)))] ∧ r = (bI (wyB t s c bk))) := by
  have h1 := hT.n
  have h2 := hT.c hc
  have h3 := hS.c (c := c) (by omega)
  refine Ki.of (own := RX8) rfl (by decide) (Nat.le_of_ble_eq_true rfl) (fun p0 e0 s0 m0 ar0 be0 me0 cd0 A0 C hr hk hnm hA => ?_)
  refine j_lsub [(0, .ref a0), (1, .int (nI c)), (2, .int (bI bk))] [0, 1, 2] rfl ?_
  refine j_aload_n (pc' := 1) C dX8_isWay_0 rfl 0 rfl ?_
  refine j_get (v := .ref aS) (pc' := 4) C KX8 0 10 rfl (by decide) fl_X8_19 rfl rfl dX8_isWay_1 rfl ?_
  refine j_bipush (v := (nI 21)) (pc' := 6) C dX8_isWay_4 rfl (by decide +kernel) ?_
  refine j_iload_n (pc' := 7) C dX8_isWay_6 rfl 1 rfl ?_
  refine j_iadd (v := (nI (21 + c))) (pc' := 8) C dX8_isWay_7 rfl (nI_add 21 c) ?_
  refine j_nald (pc' := 9) C 2 rfl (by omega) (by decide) dX8_isWay_8 rfl ?_
  refine j_nz_eq (pc' := 12) C 31 dX8_isWay_9 (by decide) rfl (by omega) (fun c9 => ?_) (fun c9 => ?_)
  · refine j_iload_n (pc' := 32) C dX8_isWay_31 rfl 2 rfl ?_
    refine j_b_eq (pc' := 35) C 67 dX8_isWay_32 (by decide) rfl (fun c32 => ?_) (fun c32 => ?_)
    · refine j_aload_n (pc' := 68) C dX8_isWay_67 rfl 0 rfl ?_
      refine j_get (v := .ref aS) (pc' := 71) C KX8 0 10 rfl (by decide) fl_X8_19 rfl rfl dX8_isWay_68 rfl ?_
      refine j_iconst (v := (nI 3)) (pc' := 72) C dX8_isWay_71 rfl (by decide +kernel) ?_
      refine j_iload_n (pc' := 73) C dX8_isWay_72 rfl 1 rfl ?_
      refine j_iadd (v := (nI (3 + c))) (pc' := 74) C dX8_isWay_73 rfl (nI_add 3 c) ?_
      refine j_nald (pc' := 75) C 2 rfl (by omega) (by decide) dX8_isWay_74 rfl ?_
      refine j_iconst (v := (nI 3)) (pc' := 76) C dX8_isWay_75 rfl (by decide +kernel) ?_
      refine j_nc_eq (pc' := 79) C 83 dX8_isWay_76 (by decide) rfl (by omega) (by omega) (fun c76 => ?_) (fun c76 => ?_)
      · refine j_iconst (v := (nI 0)) (pc' := 84) C dX8_isWay_83 rfl (by decide +kernel) ?_
        refine j_top (bI false) (by decide +kernel) ?_
        exact j_iret C hr hk hA dX8_isWay_84 (nrw_bI _) (⟨rfl, by unfold wyB; simp_all⟩)
      · refine j_iconst (v := (nI 1)) (pc' := 80) C dX8_isWay_79 rfl (by decide +kernel) ?_
        refine j_goto C 84 dX8_isWay_80 (by decide) ?_
        refine j_top (bI true) (by decide +kernel) ?_
        exact j_iret C hr hk hA dX8_isWay_84 (nrw_bI _) (⟨rfl, by unfold wyB; simp_all⟩)
    · refine j_aload_n (pc' := 36) C dX8_isWay_35 rfl 0 rfl ?_
      refine j_get (v := .ref aT) (pc' := 39) C KX8 0 8 rfl (by decide) fl_X8_13 rfl rfl dX8_isWay_36 rfl ?_
      refine j_iconst (v := (nI 3)) (pc' := 40) C dX8_isWay_39 rfl (by decide +kernel) ?_
      refine j_iload_n (pc' := 41) C dX8_isWay_40 rfl 1 rfl ?_
      refine j_iadd (v := (nI (3 + c))) (pc' := 42) C dX8_isWay_41 rfl (nI_add 3 c) ?_
      refine j_nald (pc' := 43) C 1 rfl (by omega) (by decide) dX8_isWay_42 rfl ?_
      refine j_iconst (v := (nI 3)) (pc' := 44) C dX8_isWay_43 rfl (by decide +kernel) ?_
      refine j_nc_eq (pc' := 47) C 63 dX8_isWay_44 (by decide) rfl (by omega) (by omega) (fun c44 => ?_) (fun c44 => ?_)
      · refine j_iconst (v := (nI 0)) (pc' := 64) C dX8_isWay_63 rfl (by decide +kernel) ?_
        refine j_goto C 84 dX8_isWay_64 (by decide) ?_
        refine j_top (bI false) (by decide +kernel) ?_
        exact j_iret C hr hk hA dX8_isWay_84 (nrw_bI _) (⟨rfl, by unfold wyB; simp_all⟩)
      · refine j_aload_n (pc' := 48) C dX8_isWay_47 rfl 0 rfl ?_
        refine j_get (v := .ref aS) (pc' := 51) C KX8 0 10 rfl (by decide) fl_X8_19 rfl rfl dX8_isWay_48 rfl ?_
        refine j_iconst (v := (nI 3)) (pc' := 52) C dX8_isWay_51 rfl (by decide +kernel) ?_
        refine j_iload_n (pc' := 53) C dX8_isWay_52 rfl 1 rfl ?_
        refine j_iadd (v := (nI (3 + c))) (pc' := 54) C dX8_isWay_53 rfl (nI_add 3 c) ?_
        refine j_nald (pc' := 55) C 2 rfl (by omega) (by decide) dX8_isWay_54 rfl ?_
        refine j_iconst (v := (nI 2)) (pc' := 56) C dX8_isWay_55 rfl (by decide +kernel) ?_
        refine j_nc_eq (pc' := 59) C 63 dX8_isWay_56 (by decide) rfl (by omega) (by omega) (fun c56 => ?_) (fun c56 => ?_)
        · refine j_iconst (v := (nI 0)) (pc' := 64) C dX8_isWay_63 rfl (by decide +kernel) ?_
          refine j_goto C 84 dX8_isWay_64 (by decide) ?_
          refine j_top (bI false) (by decide +kernel) ?_
          exact j_iret C hr hk hA dX8_isWay_84 (nrw_bI _) (⟨rfl, by unfold wyB; simp_all⟩)
        · refine j_iconst (v := (nI 1)) (pc' := 60) C dX8_isWay_59 rfl (by decide +kernel) ?_
          refine j_goto C 84 dX8_isWay_60 (by decide) ?_
          refine j_top (bI true) (by decide +kernel) ?_
          exact j_iret C hr hk hA dX8_isWay_84 (nrw_bI _) (⟨rfl, by unfold wyB; simp_all⟩)
  · refine j_aload_n (pc' := 13) C dX8_isWay_12 rfl 0 rfl ?_
    refine j_get (v := .ref aS) (pc' := 16) C KX8 0 10 rfl (by decide) fl_X8_19 rfl rfl dX8_isWay_13 rfl ?_
    refine j_bipush (v := (nI 21)) (pc' := 18) C dX8_isWay_16 rfl (by decide +kernel) ?_
    refine j_iload_n (pc' := 19) C dX8_isWay_18 rfl 1 rfl ?_
    refine j_iadd (v := (nI (21 + c))) (pc' := 20) C dX8_isWay_19 rfl (nI_add 21 c) ?_
    refine j_nald (pc' := 21) C 2 rfl (by omega) (by decide) dX8_isWay_20 rfl ?_
    refine j_iconst (v := (nI 2)) (pc' := 22) C dX8_isWay_21 rfl (by decide +kernel) ?_
    refine j_nc_ne (pc' := 25) C 29 dX8_isWay_22 (by decide) rfl (by omega) (by omega) (fun c22 => ?_) (fun c22 => ?_)
    · refine j_iconst (v := (nI 0)) (pc' := 30) C dX8_isWay_29 rfl (by decide +kernel) ?_
      refine j_top (bI false) (by decide +kernel) ?_
      exact j_iret C hr hk hA dX8_isWay_30 (nrw_bI _) (⟨rfl, by unfold wyB; simp_all⟩)
    · refine j_iconst (v := (nI 1)) (pc' := 26) C dX8_isWay_25 rfl (by decide +kernel) ?_
      refine j_goto C 30 dX8_isWay_26 (by decide) ?_
      refine j_top (bI true) (by decide +kernel) ?_
      exact j_iret C hr hk hA dX8_isWay_30 (nrw_bI _) (⟨rfl, by unfold wyB; simp_all⟩)

set_option maxHeartbeats 4000000 in
set_option maxRecDepth 100000 in
theorem c_X8_live {lch : Launch} {dG : va_G} {cyI cyZ cyO : ClassId} (a0 : Nat) (th : Int32) (aX : Nat) (ty : Int32) (sp : Int32) (tk : Int32) (pl : Int32) (va : Int32) (fa : Int32) (aT : Nat) (aD : Nat) (aS : Nat) (aU : Nat) (um : Int32) (aK : Nat) (aI : Nat) (aL : Nat) (aE : Nat) (aF : Nat) (sm : Int32) (aP : Nat) (aW : Nat) (sn : Int32) (aB : Nat) (aM : Nat) (t : Nat → Nat) (s : Nat → Nat) (st : Nat) (wo : Nat) (hT : WT t) (hS : WS s) (hst : st < 16) (hwo : wo < 512) : Ki lch yX8_live cX8_live 8 .int (rmk 3) dG (cyI, cyZ, cyO) [.ref a0, .int (nI st), .int (nI wo)] [(a0, .inr (8, [.int th, .ref aX, .int ty, .int sp, .int tk, .int pl, .int va, .int fa, .ref aT, .ref aD, .ref aS, .ref aU, .int um, .ref aK, .ref aI, .ref aL, .ref aE, .ref aF, .int sm, .ref aP, .ref aW, .int sn, .ref aB, .ref aM])), (aT, .inl (cyI, 42, .inl (nA t))), (aS, .inl (cyI, 30, .inl (nA s)))] (fun r w1 => w1 = [(a0, .inr (8, [.int th, .ref aX, .int ty, .int sp, .int tk, .int pl, .int va, .int fa, .ref aT, .ref aD, .ref aS, .ref aU, .int um, .ref aK, .ref aI, .ref aL, .ref aE, .ref aF, .int sm, .ref aP, .ref aW, .int sn, .ref aB, .ref aM])), (aT, .inl (cyI, 42, .inl (nA t))), (aS, .inl (cyI, 30, .inl (nA s)))] ∧ r = (nI (lvR t s st wo (t 0)))) := by
  have h1 := hT.n
  refine Ki.of (own := RX8) rfl (by decide) (Nat.le_of_ble_eq_true rfl) (fun p0 e0 s0 m0 ar0 be0 me0 cd0 A0 C hr hk hnm hA => ?_)
  refine j_lsub [(0, .ref a0), (1, .int (nI st)), (2, .int (nI wo))] [0, 1, 2] rfl ?_
  refine j_iconst (v := (nI 1)) (pc' := 1) C dX8_live_0 rfl (by decide +kernel) ?_
  refine j_istore_n (pc' := 2) C [(3, .int (nI 1)), (0, .ref a0), (1, .int (nI st)), (2, .int (nI wo))] dX8_live_1 rfl (by decide) rfl ?_
  refine j_iconst (v := (nI 0)) (pc' := 3) C dX8_live_2 rfl (by decide +kernel) ?_
  refine j_istore (pc' := 5) C [(4, .int (nI 0)), (3, .int (nI 1)), (0, .ref a0), (1, .int (nI st)), (2, .int (nI wo))] dX8_live_3 rfl (by decide) rfl ?_
  refine j_lsub [(0, .ref a0), (1, .int (nI st)), (2, .int (nI wo)), (3, .int (nI 1)), (4, .int (nI 0))] [2, 3, 4, 1, 0] rfl ?_
  refine j_loop2 (fun (k : Nat) (z : Nat) => [(a0, .inr (8, [.int th, .ref aX, .int ty, .int sp, .int tk, .int pl, .int va, .int fa, .ref aT, .ref aD, .ref aS, .ref aU, .int um, .ref aK, .ref aI, .ref aL, .ref aE, .ref aF, .int sm, .ref aP, .ref aW, .int sn, .ref aB, .ref aM])), (aT, .inl (cyI, 42, .inl (nA t))), (aS, .inl (cyI, 30, .inl (nA s)))]) (fun (k : Nat) (z : Nat) => [(0, .ref a0), (1, .int (nI st)), (2, .int (nI wo)), (3, .int (nI z)), (4, .int (nI k))]) (fun (k : Nat) (z : Nat) => []) (fun (k : Nat) (z : Nat) => k ≤ t 0 ∧ z = lvR t s st wo k) (fun (k : Nat) (z : Nat) => t 0 - k) ?_ 0 1 ?_
  · intro k z hI5 ih5
    obtain ⟨hk0, hz⟩ := hI5
    refine j_iload (pc' := 7) C dX8_live_5 rfl 4 rfl ?_
    refine j_aload_n (pc' := 8) C dX8_live_7 rfl 0 rfl ?_
    refine j_get (v := .ref aT) (pc' := 11) C KX8 0 8 rfl (by decide) fl_X8_13 rfl rfl dX8_live_8 rfl ?_
    refine j_iconst (v := (nI 0)) (pc' := 12) C dX8_live_11 rfl (by decide +kernel) ?_
    refine j_nald (pc' := 13) C 1 rfl (by omega) (by decide) dX8_live_12 rfl ?_
    refine j_nc_ge (pc' := 16) C 145 dX8_live_13 (by decide) rfl (by omega) (by omega) (fun c13 => ?_) (fun c13 => ?_)
    · refine j_iload_n (pc' := 146) C dX8_live_145 rfl 3 rfl ?_
      exact j_iret C hr hk hA dX8_live_146 (rfl) (⟨rfl, by rw [hz, show k = t 0 by omega]⟩)
    · refine j_iconst (v := (nI 0)) (pc' := 17) C dX8_live_16 rfl (by decide +kernel) ?_
      refine j_istore (pc' := 19) C [(5, .int (nI 0)), (0, .ref a0), (1, .int (nI st)), (2, .int (nI wo)), (3, .int (nI z)), (4, .int (nI k))] dX8_live_17 rfl (by decide) rfl ?_
      refine j_lsub [(0, .ref a0), (1, .int (nI st)), (2, .int (nI wo)), (3, .int (nI z)), (4, .int (nI k)), (5, .int (nI 0))] [1, 2, 3, 4, 5, 0] rfl ?_
      refine j_loop2 (fun (c : Nat) (y : Nat) => [(a0, .inr (8, [.int th, .ref aX, .int ty, .int sp, .int tk, .int pl, .int va, .int fa, .ref aT, .ref aD, .ref aS, .ref aU, .int um, .ref aK, .ref aI, .ref aL, .ref aE, .ref aF, .int sm, .ref aP, .ref aW, .int sn, .ref aB, .ref aM])), (aT, .inl (cyI, 42, .inl (nA t))), (aS, .inl (cyI, 30, .inl (nA s)))]) (fun (c : Nat) (y : Nat) => [(0, .ref a0), (1, .int (nI st)), (2, .int (nI wo)), (3, .int (nI y)), (4, .int (nI k)), (5, .int (nI c))]) (fun (c : Nat) (y : Nat) => []) (fun (c : Nat) (y : Nat) => c ≤ t 1 ∧ y = lvS t s st wo c (lvR t s st wo k)) (fun (c : Nat) (y : Nat) => t 1 - c) ?_ 0 z ?_
      · intro c y hI19 ih19
        obtain ⟨hc0, hz2⟩ := hI19
        have hz7 : y < 2 ^ 7 := by rw [hz2]; exact lvS_lt hT hc0 (lvR_lt hT k)
        refine j_iload (pc' := 21) C dX8_live_19 rfl 5 rfl ?_
        refine j_aload_n (pc' := 22) C dX8_live_21 rfl 0 rfl ?_
        refine j_get (v := .ref aT) (pc' := 25) C KX8 0 8 rfl (by decide) fl_X8_13 rfl rfl dX8_live_22 rfl ?_
        refine j_iconst (v := (nI 1)) (pc' := 26) C dX8_live_25 rfl (by decide +kernel) ?_
        refine j_nald (pc' := 27) C 1 rfl (by omega) (by decide) dX8_live_26 rfl ?_
        refine j_nc_ge (pc' := 30) C 139 dX8_live_27 (by decide) rfl (by omega) (by omega) (fun c27 => ?_) (fun c27 => ?_)
        · refine j_iinc (v := (nI (k + 1))) (pc' := 142) C [(4, .int (nI (k + 1))), (0, .ref a0), (1, .int (nI st)), (2, .int (nI wo)), (3, .int (nI y)), (5, .int (nI c))] dX8_live_139 rfl 4 rfl (inc_n k 1) (by decide) rfl ?_
          refine j_goto C 5 dX8_live_142 (by decide) ?_
          refine j_lsub [(0, .ref a0), (1, .int (nI st)), (2, .int (nI wo)), (3, .int (nI y)), (4, .int (nI (k + 1)))] [1, 2, 3, 4, 0] rfl ?_
          exact ih5 (k + 1) y (⟨by omega, by rw [lvR, hz2]; rw [show c = t 1 by omega]⟩) (by omega)
        · have h2 := hT.c c27
          have h2a := h2.2.1
          have h2b := h2.2.2.1
          refine j_iload_n (pc' := 31) C dX8_live_30 rfl 2 rfl ?_
          refine j_iload (pc' := 33) C dX8_live_31 rfl 5 rfl ?_
          refine j_cSi (As := [.int (nI wo), .int (nI c)]) (wr := [(a0, .inr (8, [.int th, .ref aX, .int ty, .int sp, .int tk, .int pl, .int va, .int fa, .ref aT, .ref aD, .ref aS, .ref aU, .int um, .ref aK, .ref aI, .ref aL, .ref aE, .ref aF, .int sm, .ref aP, .ref aW, .int sn, .ref aB, .ref aM])), (aT, .inl (cyI, 42, .inl (nA t))), (aS, .inl (cyI, 30, .inl (nA s)))]) (pc' := 36) C (c_X8_has (a := wo) (k := c) (ha := by first | assumption | omega) (hk9 := by first | assumption | omega)) Y_X8_has (ml_X8_130) [] [0, 1, 2] rfl rfl rfl rfl (by decide) dX8_live_33 rfl rfl rfl (Nat.le_of_ble_eq_true rfl) ⟨Nat.le_of_ble_eq_true rfl, Nat.le_of_ble_eq_true rfl⟩ ⟨Nat.le_of_ble_eq_true rfl, Nat.le_of_ble_eq_true rfl⟩ ⟨rfl, rfl⟩ (fun r1 w1 hQ => ?_)
          obtain ⟨rfl, rfl⟩ := hQ
          refine j_perm [(a0, .inr (8, [.int th, .ref aX, .int ty, .int sp, .int tk, .int pl, .int va, .int fa, .ref aT, .ref aD, .ref aS, .ref aU, .int um, .ref aK, .ref aI, .ref aL, .ref aE, .ref aF, .int sm, .ref aP, .ref aW, .int sn, .ref aB, .ref aM])), (aT, .inl (cyI, 42, .inl (nA t))), (aS, .inl (cyI, 30, .inl (nA s)))] [0, 1, 2] rfl rfl (by decide) ?_
          refine j_b_ne (pc' := 39) C 133 dX8_live_36 (by decide) rfl (fun c36 => ?_) (fun c36 => ?_)
          · refine j_iinc (v := (nI (c + 1))) (pc' := 136) C [(5, .int (nI (c + 1))), (0, .ref a0), (1, .int (nI st)), (2, .int (nI wo)), (3, .int (nI y)), (4, .int (nI k))] dX8_live_133 rfl 5 rfl (inc_n c 1) (by decide) rfl ?_
            refine j_goto C 19 dX8_live_136 (by decide) ?_
            refine j_lsub [(0, .ref a0), (1, .int (nI st)), (2, .int (nI wo)), (3, .int (nI y)), (4, .int (nI k)), (5, .int (nI (c + 1)))] [1, 2, 3, 4, 5, 0] rfl ?_
            exact ih19 (c + 1) y (⟨by omega, by rw [lvS, ← hz2]; unfold lvC lvB lvA; simp_all⟩) (by omega)
          · refine j_aload_n (pc' := 40) C dX8_live_39 rfl 0 rfl ?_
            refine j_iload (pc' := 42) C dX8_live_40 rfl 5 rfl ?_
            refine j_iload_n (pc' := 43) C dX8_live_42 rfl 1 rfl ?_
            refine j_cVi (As := [.int (nI c), .int (nI st)]) (wr := []) (pc' := 46) C (c_X8_isShut (a0 := a0) (th := th) (aX := aX) (ty := ty) (sp := sp) (tk := tk) (pl := pl) (va := va) (fa := fa) (aT := aT) (aD := aD) (aS := aS) (aU := aU) (um := um) (aK := aK) (aI := aI) (aL := aL) (aE := aE) (aF := aF) (sm := sm) (aP := aP) (aW := aW) (sn := sn) (aB := aB) (aM := aM) (t := t) (s := s) (c := c) (st := st) (hT := by first | assumption | omega) (hS := by first | assumption | omega) (hc := by first | assumption | omega) (hst := by first | assumption | omega)) Y_X8_isShut (ml_X8_133) [0, 1, 2] [] rfl rfl rfl rfl (by decide) rfl rfl rfl dX8_live_43 rfl rfl rfl (Nat.le_of_ble_eq_true rfl) ⟨Nat.le_of_ble_eq_true rfl, Nat.le_of_ble_eq_true rfl⟩ ⟨Nat.le_of_ble_eq_true rfl, Nat.le_of_ble_eq_true rfl⟩ ⟨rfl, rfl⟩ (fun r2 w1 hQ => ?_)
            obtain ⟨rfl, rfl⟩ := hQ
            refine j_b_eq (pc' := 49) C 133 dX8_live_46 (by decide) rfl (fun c46 => ?_) (fun c46 => ?_)
            · refine j_iinc (v := (nI (c + 1))) (pc' := 136) C [(5, .int (nI (c + 1))), (0, .ref a0), (1, .int (nI st)), (2, .int (nI wo)), (3, .int (nI y)), (4, .int (nI k))] dX8_live_133 rfl 5 rfl (inc_n c 1) (by decide) rfl ?_
              refine j_goto C 19 dX8_live_136 (by decide) ?_
              refine j_lsub [(0, .ref a0), (1, .int (nI st)), (2, .int (nI wo)), (3, .int (nI y)), (4, .int (nI k)), (5, .int (nI (c + 1)))] [1, 2, 3, 4, 5, 0] rfl ?_
              exact ih19 (c + 1) y (⟨by omega, by rw [lvS, ← hz2]; unfold lvC lvB lvA; simp_all⟩) (by omega)
            · refine j_aload_n (pc' := 50) C dX8_live_49 rfl 0 rfl ?_
              refine j_get (v := .ref aT) (pc' := 53) C KX8 0 8 rfl (by decide) fl_X8_13 rfl rfl dX8_live_50 rfl ?_
              refine j_bipush (v := (nI 12)) (pc' := 55) C dX8_live_53 rfl (by decide +kernel) ?_
              refine j_iload (pc' := 57) C dX8_live_55 rfl 5 rfl ?_
              refine j_iadd (v := (nI (12 + c))) (pc' := 58) C dX8_live_57 rfl (nI_add 12 c) ?_
              refine j_nald (pc' := 59) C 1 rfl (by omega) (by decide) dX8_live_58 rfl ?_
              refine j_istore (pc' := 61) C [(6, .int (nI (t (12 + c)))), (0, .ref a0), (1, .int (nI st)), (2, .int (nI wo)), (3, .int (nI y)), (4, .int (nI k)), (5, .int (nI c))] dX8_live_59 rfl (by decide) rfl ?_
              refine j_aload_n (pc' := 62) C dX8_live_61 rfl 1 rfl ?_
              refine j_get (v := .ref aT) (pc' := 65) C KX8 0 8 rfl (by decide) fl_X8_13 rfl rfl dX8_live_62 rfl ?_
              refine j_bipush (v := (nI 21)) (pc' := 67) C dX8_live_65 rfl (by decide +kernel) ?_
              refine j_iload (pc' := 69) C dX8_live_67 rfl 6 rfl ?_
              refine j_iadd (v := (nI (21 + c))) (pc' := 70) C dX8_live_69 rfl (nI_add 21 c) ?_
              refine j_nald (pc' := 71) C 1 rfl (by omega) (by decide) dX8_live_70 rfl ?_
              refine j_istore (pc' := 73) C [(7, .int (nI (t (21 + c)))), (6, .int (nI (t (12 + c)))), (0, .ref a0), (1, .int (nI st)), (2, .int (nI wo)), (3, .int (nI y)), (4, .int (nI k)), (5, .int (nI c))] dX8_live_71 rfl (by decide) rfl ?_
              refine j_iload_n (pc' := 74) C dX8_live_73 rfl 5 rfl ?_
              refine j_iload_n (pc' := 75) C dX8_live_74 rfl 5 rfl ?_
              refine j_iload (pc' := 77) C dX8_live_75 rfl 1 rfl ?_
              refine j_cSi (As := [.int (nI y), .int (nI (t (12 + c)))]) (wr := [(a0, .inr (8, [.int th, .ref aX, .int ty, .int sp, .int tk, .int pl, .int va, .int fa, .ref aT, .ref aD, .ref aS, .ref aU, .int um, .ref aK, .ref aI, .ref aL, .ref aE, .ref aF, .int sm, .ref aP, .ref aW, .int sn, .ref aB, .ref aM])), (aT, .inl (cyI, 42, .inl (nA t))), (aS, .inl (cyI, 30, .inl (nA s)))]) (pc' := 80) C (c_X8_has (a := y) (k := t (12 + c)) (ha := by omega) (hk9 := by first | assumption | omega)) Y_X8_has (ml_X8_130) [] [0, 1, 2] rfl rfl rfl rfl (by decide) dX8_live_77 rfl rfl rfl (Nat.le_of_ble_eq_true rfl) ⟨Nat.le_of_ble_eq_true rfl, Nat.le_of_ble_eq_true rfl⟩ ⟨Nat.le_of_ble_eq_true rfl, Nat.le_of_ble_eq_true rfl⟩ ⟨rfl, rfl⟩ (fun r3 w1 hQ => ?_)
              obtain ⟨rfl, rfl⟩ := hQ
              refine j_perm [(a0, .inr (8, [.int th, .ref aX, .int ty, .int sp, .int tk, .int pl, .int va, .int fa, .ref aT, .ref aD, .ref aS, .ref aU, .int um, .ref aK, .ref aI, .ref aL, .ref aE, .ref aF, .int sm, .ref aP, .ref aW, .int sn, .ref aB, .ref aM])), (aT, .inl (cyI, 42, .inl (nA t))), (aS, .inl (cyI, 30, .inl (nA s)))] [0, 1, 2] rfl rfl (by decide) ?_
              refine j_b_eq (pc' := 83) C 100 dX8_live_80 (by decide) rfl (fun c80 => ?_) (fun c80 => ?_)
              · refine j_iconst (v := (nI 0)) (pc' := 101) C dX8_live_100 rfl (by decide +kernel) ?_
                refine j_ior (v := (nI (y ||| 0))) (pc' := 102) C dX8_live_101 rfl (fa_or y 0) ?_
                refine j_istore_n (pc' := 103) C [(3, .int (nI (y ||| 0))), (7, .int (nI (t (21 + c)))), (6, .int (nI (t (12 + c)))), (0, .ref a0), (1, .int (nI st)), (2, .int (nI wo)), (4, .int (nI k)), (5, .int (nI c))] dX8_live_102 rfl (by decide) rfl ?_
                refine j_iload_n (pc' := 104) C dX8_live_103 rfl 0 rfl ?_
                refine j_iload_n (pc' := 105) C dX8_live_104 rfl 0 rfl ?_
                refine j_iload (pc' := 107) C dX8_live_105 rfl 1 rfl ?_
                refine j_cSi (As := [.int (nI (y ||| 0)), .int (nI (t (21 + c)))]) (wr := [(a0, .inr (8, [.int th, .ref aX, .int ty, .int sp, .int tk, .int pl, .int va, .int fa, .ref aT, .ref aD, .ref aS, .ref aU, .int um, .ref aK, .ref aI, .ref aL, .ref aE, .ref aF, .int sm, .ref aP, .ref aW, .int sn, .ref aB, .ref aM])), (aT, .inl (cyI, 42, .inl (nA t))), (aS, .inl (cyI, 30, .inl (nA s)))]) (pc' := 110) C (c_X8_has (a := y ||| 0) (k := t (21 + c)) (ha := by first | omega | exact Nat.lt_of_lt_of_le (or_lt (k := 7) hz7 (p2_lt (by omega))) (by decide) | exact Nat.lt_of_lt_of_le (or_lt (k := 7) hz7 (by decide)) (by decide)) (hk9 := by first | assumption | omega)) Y_X8_has (ml_X8_130) [] [0, 1, 2] rfl rfl rfl rfl (by decide) dX8_live_107 rfl rfl rfl (Nat.le_of_ble_eq_true rfl) ⟨Nat.le_of_ble_eq_true rfl, Nat.le_of_ble_eq_true rfl⟩ ⟨Nat.le_of_ble_eq_true rfl, Nat.le_of_ble_eq_true rfl⟩ ⟨rfl, rfl⟩ (fun r4 w1 hQ => ?_)
                obtain ⟨rfl, rfl⟩ := hQ
                refine j_perm [(a0, .inr (8, [.int th, .ref aX, .int ty, .int sp, .int tk, .int pl, .int va, .int fa, .ref aT, .ref aD, .ref aS, .ref aU, .int um, .ref aK, .ref aI, .ref aL, .ref aE, .ref aF, .int sm, .ref aP, .ref aW, .int sn, .ref aB, .ref aM])), (aT, .inl (cyI, 42, .inl (nA t))), (aS, .inl (cyI, 30, .inl (nA s)))] [0, 1, 2] rfl rfl (by decide) ?_
                refine j_b_eq (pc' := 113) C 130 dX8_live_110 (by decide) rfl (fun c110 => ?_) (fun c110 => ?_)
                · refine j_iconst (v := (nI 0)) (pc' := 131) C dX8_live_130 rfl (by decide +kernel) ?_
                  refine j_ior (v := (nI ((y ||| 0) ||| 0))) (pc' := 132) C dX8_live_131 rfl (fa_or (y ||| 0) 0) ?_
                  refine j_istore_n (pc' := 133) C [(3, .int (nI ((y ||| 0) ||| 0))), (7, .int (nI (t (21 + c)))), (6, .int (nI (t (12 + c)))), (0, .ref a0), (1, .int (nI st)), (2, .int (nI wo)), (4, .int (nI k)), (5, .int (nI c))] dX8_live_132 rfl (by decide) rfl ?_
                  refine j_iinc (v := (nI (c + 1))) (pc' := 136) C [(5, .int (nI (c + 1))), (3, .int (nI ((y ||| 0) ||| 0))), (7, .int (nI (t (21 + c)))), (6, .int (nI (t (12 + c)))), (0, .ref a0), (1, .int (nI st)), (2, .int (nI wo)), (4, .int (nI k))] dX8_live_133 rfl 7 rfl (inc_n c 1) (by decide) rfl ?_
                  refine j_goto C 19 dX8_live_136 (by decide) ?_
                  refine j_lsub [(0, .ref a0), (1, .int (nI st)), (2, .int (nI wo)), (3, .int (nI ((y ||| 0) ||| 0))), (4, .int (nI k)), (5, .int (nI (c + 1)))] [4, 5, 6, 1, 7, 0] rfl ?_
                  exact ih19 (c + 1) ((y ||| 0) ||| 0) (⟨by omega, by rw [lvS, ← hz2]; unfold lvC lvB lvA; simp_all⟩) (by omega)
                · refine j_aload_n (pc' := 114) C dX8_live_113 rfl 3 rfl ?_
                  refine j_iload (pc' := 116) C dX8_live_114 rfl 7 rfl ?_
                  refine j_iconst (v := (nI 1)) (pc' := 117) C dX8_live_116 rfl (by decide +kernel) ?_
                  refine j_cVi (As := [.int (nI c), .int (nI 1)]) (wr := []) (pc' := 120) C (c_X8_isWay (a0 := a0) (th := th) (aX := aX) (ty := ty) (sp := sp) (tk := tk) (pl := pl) (va := va) (fa := fa) (aT := aT) (aD := aD) (aS := aS) (aU := aU) (um := um) (aK := aK) (aI := aI) (aL := aL) (aE := aE) (aF := aF) (sm := sm) (aP := aP) (aW := aW) (sn := sn) (aB := aB) (aM := aM) (t := t) (s := s) (c := c) (bk := true) (hT := by first | assumption | omega) (hS := by first | assumption | omega) (hc := by first | assumption | omega)) Y_X8_isWay (ml_X8_136) [0, 1, 2] [] rfl rfl rfl rfl (by decide) rfl rfl rfl dX8_live_117 rfl rfl rfl (Nat.le_of_ble_eq_true rfl) ⟨Nat.le_of_ble_eq_true rfl, Nat.le_of_ble_eq_true rfl⟩ ⟨Nat.le_of_ble_eq_true rfl, Nat.le_of_ble_eq_true rfl⟩ ⟨rfl, rfl⟩ (fun r5 w1 hQ => ?_)
                  obtain ⟨rfl, rfl⟩ := hQ
                  refine j_b_eq (pc' := 123) C 130 dX8_live_120 (by decide) rfl (fun c120 => ?_) (fun c120 => ?_)
                  · refine j_iconst (v := (nI 0)) (pc' := 131) C dX8_live_130 rfl (by decide +kernel) ?_
                    refine j_ior (v := (nI ((y ||| 0) ||| 0))) (pc' := 132) C dX8_live_131 rfl (fa_or (y ||| 0) 0) ?_
                    refine j_istore_n (pc' := 133) C [(3, .int (nI ((y ||| 0) ||| 0))), (7, .int (nI (t (21 + c)))), (6, .int (nI (t (12 + c)))), (0, .ref a0), (1, .int (nI st)), (2, .int (nI wo)), (4, .int (nI k)), (5, .int (nI c))] dX8_live_132 rfl (by decide) rfl ?_
                    refine j_iinc (v := (nI (c + 1))) (pc' := 136) C [(5, .int (nI (c + 1))), (3, .int (nI ((y ||| 0) ||| 0))), (7, .int (nI (t (21 + c)))), (6, .int (nI (t (12 + c)))), (0, .ref a0), (1, .int (nI st)), (2, .int (nI wo)), (4, .int (nI k))] dX8_live_133 rfl 7 rfl (inc_n c 1) (by decide) rfl ?_
                    refine j_goto C 19 dX8_live_136 (by decide) ?_
                    refine j_lsub [(0, .ref a0), (1, .int (nI st)), (2, .int (nI wo)), (3, .int (nI ((y ||| 0) ||| 0))), (4, .int (nI k)), (5, .int (nI (c + 1)))] [4, 5, 6, 1, 7, 0] rfl ?_
                    exact ih19 (c + 1) ((y ||| 0) ||| 0) (⟨by omega, by rw [lvS, ← hz2]; unfold lvC lvB lvA; simp_all⟩) (by omega)
                  · refine j_iconst (v := (nI 1)) (pc' := 124) C dX8_live_123 rfl (by decide +kernel) ?_
                    refine j_iload (pc' := 126) C dX8_live_124 rfl 2 rfl ?_
                    refine j_ishl (v := (nI (2 ^ (t (12 + c))))) (pc' := 127) C dX8_live_126 rfl (sh_1 (by omega)) ?_
                    refine j_goto C 131 dX8_live_127 (by decide) ?_
                    refine j_ior (v := (nI ((y ||| 0) ||| (2 ^ (t (12 + c)))))) (pc' := 132) C dX8_live_131 rfl (fa_or (y ||| 0) (2 ^ (t (12 + c)))) ?_
                    refine j_istore_n (pc' := 133) C [(3, .int (nI ((y ||| 0) ||| (2 ^ (t (12 + c)))))), (7, .int (nI (t (21 + c)))), (6, .int (nI (t (12 + c)))), (0, .ref a0), (1, .int (nI st)), (2, .int (nI wo)), (4, .int (nI k)), (5, .int (nI c))] dX8_live_132 rfl (by decide) rfl ?_
                    refine j_iinc (v := (nI (c + 1))) (pc' := 136) C [(5, .int (nI (c + 1))), (3, .int (nI ((y ||| 0) ||| (2 ^ (t (12 + c)))))), (7, .int (nI (t (21 + c)))), (6, .int (nI (t (12 + c)))), (0, .ref a0), (1, .int (nI st)), (2, .int (nI wo)), (4, .int (nI k))] dX8_live_133 rfl 7 rfl (inc_n c 1) (by decide) rfl ?_
                    refine j_goto C 19 dX8_live_136 (by decide) ?_
                    refine j_lsub [(0, .ref a0), (1, .int (nI st)), (2, .int (nI wo)), (3, .int (nI ((y ||| 0) ||| (2 ^ (t (12 + c)))))), (4, .int (nI k)), (5, .int (nI (c + 1)))] [4, 5, 6, 1, 7, 0] rfl ?_
                    exact ih19 (c + 1) ((y ||| 0) ||| (2 ^ (t (12 + c)))) (⟨by omega, by rw [lvS, ← hz2]; unfold lvC lvB lvA; simp_all⟩) (by omega)
              · refine j_aload_n (pc' := 84) C dX8_live_83 rfl 2 rfl ?_
                refine j_iload (pc' := 86) C dX8_live_84 rfl 7 rfl ?_
                refine j_iconst (v := (nI 0)) (pc' := 87) C dX8_live_86 rfl (by decide +kernel) ?_
                refine j_cVi (As := [.int (nI c), .int (nI 0)]) (wr := []) (pc' := 90) C (c_X8_isWay (a0 := a0) (th := th) (aX := aX) (ty := ty) (sp := sp) (tk := tk) (pl := pl) (va := va) (fa := fa) (aT := aT) (aD := aD) (aS := aS) (aU := aU) (um := um) (aK := aK) (aI := aI) (aL := aL) (aE := aE) (aF := aF) (sm := sm) (aP := aP) (aW := aW) (sn := sn) (aB := aB) (aM := aM) (t := t) (s := s) (c := c) (bk := false) (hT := by first | assumption | omega) (hS := by first | assumption | omega) (hc := by first | assumption | omega)) Y_X8_isWay (ml_X8_136) [0, 1, 2] [] rfl rfl rfl rfl (by decide) rfl rfl rfl dX8_live_87 rfl rfl rfl (Nat.le_of_ble_eq_true rfl) ⟨Nat.le_of_ble_eq_true rfl, Nat.le_of_ble_eq_true rfl⟩ ⟨Nat.le_of_ble_eq_true rfl, Nat.le_of_ble_eq_true rfl⟩ ⟨rfl, rfl⟩ (fun r6 w1 hQ => ?_)
                obtain ⟨rfl, rfl⟩ := hQ
                refine j_b_eq (pc' := 93) C 100 dX8_live_90 (by decide) rfl (fun c90 => ?_) (fun c90 => ?_)
                · refine j_iconst (v := (nI 0)) (pc' := 101) C dX8_live_100 rfl (by decide +kernel) ?_
                  refine j_ior (v := (nI (y ||| 0))) (pc' := 102) C dX8_live_101 rfl (fa_or y 0) ?_
                  refine j_istore_n (pc' := 103) C [(3, .int (nI (y ||| 0))), (7, .int (nI (t (21 + c)))), (6, .int (nI (t (12 + c)))), (0, .ref a0), (1, .int (nI st)), (2, .int (nI wo)), (4, .int (nI k)), (5, .int (nI c))] dX8_live_102 rfl (by decide) rfl ?_
                  refine j_iload_n (pc' := 104) C dX8_live_103 rfl 0 rfl ?_
                  refine j_iload_n (pc' := 105) C dX8_live_104 rfl 0 rfl ?_
                  refine j_iload (pc' := 107) C dX8_live_105 rfl 1 rfl ?_
                  refine j_cSi (As := [.int (nI (y ||| 0)), .int (nI (t (21 + c)))]) (wr := [(a0, .inr (8, [.int th, .ref aX, .int ty, .int sp, .int tk, .int pl, .int va, .int fa, .ref aT, .ref aD, .ref aS, .ref aU, .int um, .ref aK, .ref aI, .ref aL, .ref aE, .ref aF, .int sm, .ref aP, .ref aW, .int sn, .ref aB, .ref aM])), (aT, .inl (cyI, 42, .inl (nA t))), (aS, .inl (cyI, 30, .inl (nA s)))]) (pc' := 110) C (c_X8_has (a := y ||| 0) (k := t (21 + c)) (ha := by first | omega | exact Nat.lt_of_lt_of_le (or_lt (k := 7) hz7 (p2_lt (by omega))) (by decide) | exact Nat.lt_of_lt_of_le (or_lt (k := 7) hz7 (by decide)) (by decide)) (hk9 := by first | assumption | omega)) Y_X8_has (ml_X8_130) [] [0, 1, 2] rfl rfl rfl rfl (by decide) dX8_live_107 rfl rfl rfl (Nat.le_of_ble_eq_true rfl) ⟨Nat.le_of_ble_eq_true rfl, Nat.le_of_ble_eq_true rfl⟩ ⟨Nat.le_of_ble_eq_true rfl, Nat.le_of_ble_eq_true rfl⟩ ⟨rfl, rfl⟩ (fun r7 w1 hQ => ?_)
                  obtain ⟨rfl, rfl⟩ := hQ
                  refine j_perm [(a0, .inr (8, [.int th, .ref aX, .int ty, .int sp, .int tk, .int pl, .int va, .int fa, .ref aT, .ref aD, .ref aS, .ref aU, .int um, .ref aK, .ref aI, .ref aL, .ref aE, .ref aF, .int sm, .ref aP, .ref aW, .int sn, .ref aB, .ref aM])), (aT, .inl (cyI, 42, .inl (nA t))), (aS, .inl (cyI, 30, .inl (nA s)))] [0, 1, 2] rfl rfl (by decide) ?_
                  refine j_b_eq (pc' := 113) C 130 dX8_live_110 (by decide) rfl (fun c110 => ?_) (fun c110 => ?_)
                  · refine j_iconst (v := (nI 0)) (pc' := 131) C dX8_live_130 rfl (by decide +kernel) ?_
                    refine j_ior (v := (nI ((y ||| 0) ||| 0))) (pc' := 132) C dX8_live_131 rfl (fa_or (y ||| 0) 0) ?_
                    refine j_istore_n (pc' := 133) C [(3, .int (nI ((y ||| 0) ||| 0))), (7, .int (nI (t (21 + c)))), (6, .int (nI (t (12 + c)))), (0, .ref a0), (1, .int (nI st)), (2, .int (nI wo)), (4, .int (nI k)), (5, .int (nI c))] dX8_live_132 rfl (by decide) rfl ?_
                    refine j_iinc (v := (nI (c + 1))) (pc' := 136) C [(5, .int (nI (c + 1))), (3, .int (nI ((y ||| 0) ||| 0))), (7, .int (nI (t (21 + c)))), (6, .int (nI (t (12 + c)))), (0, .ref a0), (1, .int (nI st)), (2, .int (nI wo)), (4, .int (nI k))] dX8_live_133 rfl 7 rfl (inc_n c 1) (by decide) rfl ?_
                    refine j_goto C 19 dX8_live_136 (by decide) ?_
                    refine j_lsub [(0, .ref a0), (1, .int (nI st)), (2, .int (nI wo)), (3, .int (nI ((y ||| 0) ||| 0))), (4, .int (nI k)), (5, .int (nI (c + 1)))] [4, 5, 6, 1, 7, 0] rfl ?_
                    exact ih19 (c + 1) ((y ||| 0) ||| 0) (⟨by omega, by rw [lvS, ← hz2]; unfold lvC lvB lvA; simp_all⟩) (by omega)
                  · refine j_aload_n (pc' := 114) C dX8_live_113 rfl 3 rfl ?_
                    refine j_iload (pc' := 116) C dX8_live_114 rfl 7 rfl ?_
                    refine j_iconst (v := (nI 1)) (pc' := 117) C dX8_live_116 rfl (by decide +kernel) ?_
                    refine j_cVi (As := [.int (nI c), .int (nI 1)]) (wr := []) (pc' := 120) C (c_X8_isWay (a0 := a0) (th := th) (aX := aX) (ty := ty) (sp := sp) (tk := tk) (pl := pl) (va := va) (fa := fa) (aT := aT) (aD := aD) (aS := aS) (aU := aU) (um := um) (aK := aK) (aI := aI) (aL := aL) (aE := aE) (aF := aF) (sm := sm) (aP := aP) (aW := aW) (sn := sn) (aB := aB) (aM := aM) (t := t) (s := s) (c := c) (bk := true) (hT := by first | assumption | omega) (hS := by first | assumption | omega) (hc := by first | assumption | omega)) Y_X8_isWay (ml_X8_136) [0, 1, 2] [] rfl rfl rfl rfl (by decide) rfl rfl rfl dX8_live_117 rfl rfl rfl (Nat.le_of_ble_eq_true rfl) ⟨Nat.le_of_ble_eq_true rfl, Nat.le_of_ble_eq_true rfl⟩ ⟨Nat.le_of_ble_eq_true rfl, Nat.le_of_ble_eq_true rfl⟩ ⟨rfl, rfl⟩ (fun r8 w1 hQ => ?_)
                    obtain ⟨rfl, rfl⟩ := hQ
                    refine j_b_eq (pc' := 123) C 130 dX8_live_120 (by decide) rfl (fun c120 => ?_) (fun c120 => ?_)
                    · refine j_iconst (v := (nI 0)) (pc' := 131) C dX8_live_130 rfl (by decide +kernel) ?_
                      refine j_ior (v := (nI ((y ||| 0) ||| 0))) (pc' := 132) C dX8_live_131 rfl (fa_or (y ||| 0) 0) ?_
                      refine j_istore_n (pc' := 133) C [(3, .int (nI ((y ||| 0) ||| 0))), (7, .int (nI (t (21 + c)))), (6, .int (nI (t (12 + c)))), (0, .ref a0), (1, .int (nI st)), (2, .int (nI wo)), (4, .int (nI k)), (5, .int (nI c))] dX8_live_132 rfl (by decide) rfl ?_
                      refine j_iinc (v := (nI (c + 1))) (pc' := 136) C [(5, .int (nI (c + 1))), (3, .int (nI ((y ||| 0) ||| 0))), (7, .int (nI (t (21 + c)))), (6, .int (nI (t (12 + c)))), (0, .ref a0), (1, .int (nI st)), (2, .int (nI wo)), (4, .int (nI k))] dX8_live_133 rfl 7 rfl (inc_n c 1) (by decide) rfl ?_
                      refine j_goto C 19 dX8_live_136 (by decide) ?_
                      refine j_lsub [(0, .ref a0), (1, .int (nI st)), (2, .int (nI wo)), (3, .int (nI ((y ||| 0) ||| 0))), (4, .int (nI k)), (5, .int (nI (c + 1)))] [4, 5, 6, 1, 7, 0] rfl ?_
                      exact ih19 (c + 1) ((y ||| 0) ||| 0) (⟨by omega, by rw [lvS, ← hz2]; unfold lvC lvB lvA; simp_all⟩) (by omega)
                    · refine j_iconst (v := (nI 1)) (pc' := 124) C dX8_live_123 rfl (by decide +kernel) ?_
                      refine j_iload (pc' := 126) C dX8_live_124 rfl 2 rfl ?_
                      refine j_ishl (v := (nI (2 ^ (t (12 + c))))) (pc' := 127) C dX8_live_126 rfl (sh_1 (by omega)) ?_
                      refine j_goto C 131 dX8_live_127 (by decide) ?_
                      refine j_ior (v := (nI ((y ||| 0) ||| (2 ^ (t (12 + c)))))) (pc' := 132) C dX8_live_131 rfl (fa_or (y ||| 0) (2 ^ (t (12 + c)))) ?_
                      refine j_istore_n (pc' := 133) C [(3, .int (nI ((y ||| 0) ||| (2 ^ (t (12 + c)))))), (7, .int (nI (t (21 + c)))), (6, .int (nI (t (12 + c)))), (0, .ref a0), (1, .int (nI st)), (2, .int (nI wo)), (4, .int (nI k)), (5, .int (nI c))] dX8_live_132 rfl (by decide) rfl ?_
                      refine j_iinc (v := (nI (c + 1))) (pc' := 136) C [(5, .int (nI (c + 1))), (3, .int (nI ((y ||| 0) ||| (2 ^ (t (12 + c)))))), (7, .int (nI (t (21 + c)))), (6, .int (nI (t (12 + c)))), (0, .ref a0), (1, .int (nI st)), (2, .int (nI wo)), (4, .int (nI k))] dX8_live_133 rfl 7 rfl (inc_n c 1) (by decide) rfl ?_
                      refine j_goto C 19 dX8_live_136 (by decide) ?_
                      refine j_lsub [(0, .ref a0), (1, .int (nI st)), (2, .int (nI wo)), (3, .int (nI ((y ||| 0) ||| (2 ^ (t (12 + c)))))), (4, .int (nI k)), (5, .int (nI (c + 1)))] [4, 5, 6, 1, 7, 0] rfl ?_
                      exact ih19 (c + 1) ((y ||| 0) ||| (2 ^ (t (12 + c)))) (⟨by omega, by rw [lvS, ← hz2]; unfold lvC lvB lvA; simp_all⟩) (by omega)
                · refine j_iconst (v := (nI 1)) (pc' := 94) C dX8_live_93 rfl (by decide +kernel) ?_
                  refine j_iload (pc' := 96) C dX8_live_94 rfl 0 rfl ?_
                  refine j_ishl (v := (nI (2 ^ (t (21 + c))))) (pc' := 97) C dX8_live_96 rfl (sh_1 (by omega)) ?_
                  refine j_goto C 101 dX8_live_97 (by decide) ?_
                  refine j_ior (v := (nI (y ||| (2 ^ (t (21 + c)))))) (pc' := 102) C dX8_live_101 rfl (fa_or y (2 ^ (t (21 + c)))) ?_
                  refine j_istore_n (pc' := 103) C [(3, .int (nI (y ||| (2 ^ (t (21 + c)))))), (7, .int (nI (t (21 + c)))), (6, .int (nI (t (12 + c)))), (0, .ref a0), (1, .int (nI st)), (2, .int (nI wo)), (4, .int (nI k)), (5, .int (nI c))] dX8_live_102 rfl (by decide) rfl ?_
                  refine j_iload_n (pc' := 104) C dX8_live_103 rfl 0 rfl ?_
                  refine j_iload_n (pc' := 105) C dX8_live_104 rfl 0 rfl ?_
                  refine j_iload (pc' := 107) C dX8_live_105 rfl 1 rfl ?_
                  refine j_cSi (As := [.int (nI (y ||| (2 ^ (t (21 + c))))), .int (nI (t (21 + c)))]) (wr := [(a0, .inr (8, [.int th, .ref aX, .int ty, .int sp, .int tk, .int pl, .int va, .int fa, .ref aT, .ref aD, .ref aS, .ref aU, .int um, .ref aK, .ref aI, .ref aL, .ref aE, .ref aF, .int sm, .ref aP, .ref aW, .int sn, .ref aB, .ref aM])), (aT, .inl (cyI, 42, .inl (nA t))), (aS, .inl (cyI, 30, .inl (nA s)))]) (pc' := 110) C (c_X8_has (a := y ||| (2 ^ (t (21 + c)))) (k := t (21 + c)) (ha := by first | omega | exact Nat.lt_of_lt_of_le (or_lt (k := 7) hz7 (p2_lt (by omega))) (by decide) | exact Nat.lt_of_lt_of_le (or_lt (k := 7) hz7 (by decide)) (by decide)) (hk9 := by first | assumption | omega)) Y_X8_has (ml_X8_130) [] [0, 1, 2] rfl rfl rfl rfl (by decide) dX8_live_107 rfl rfl rfl (Nat.le_of_ble_eq_true rfl) ⟨Nat.le_of_ble_eq_true rfl, Nat.le_of_ble_eq_true rfl⟩ ⟨Nat.le_of_ble_eq_true rfl, Nat.le_of_ble_eq_true rfl⟩ ⟨rfl, rfl⟩ (fun r9 w1 hQ => ?_)
                  obtain ⟨rfl, rfl⟩ := hQ
                  refine j_perm [(a0, .inr (8, [.int th, .ref aX, .int ty, .int sp, .int tk, .int pl, .int va, .int fa, .ref aT, .ref aD, .ref aS, .ref aU, .int um, .ref aK, .ref aI, .ref aL, .ref aE, .ref aF, .int sm, .ref aP, .ref aW, .int sn, .ref aB, .ref aM])), (aT, .inl (cyI, 42, .inl (nA t))), (aS, .inl (cyI, 30, .inl (nA s)))] [0, 1, 2] rfl rfl (by decide) ?_
                  refine j_b_eq (pc' := 113) C 130 dX8_live_110 (by decide) rfl (fun c110 => ?_) (fun c110 => ?_)
                  · refine j_iconst (v := (nI 0)) (pc' := 131) C dX8_live_130 rfl (by decide +kernel) ?_
                    refine j_ior (v := (nI ((y ||| (2 ^ (t (21 + c)))) ||| 0))) (pc' := 132) C dX8_live_131 rfl (fa_or (y ||| (2 ^ (t (21 + c)))) 0) ?_
                    refine j_istore_n (pc' := 133) C [(3, .int (nI ((y ||| (2 ^ (t (21 + c)))) ||| 0))), (7, .int (nI (t (21 + c)))), (6, .int (nI (t (12 + c)))), (0, .ref a0), (1, .int (nI st)), (2, .int (nI wo)), (4, .int (nI k)), (5, .int (nI c))] dX8_live_132 rfl (by decide) rfl ?_
                    refine j_iinc (v := (nI (c + 1))) (pc' := 136) C [(5, .int (nI (c + 1))), (3, .int (nI ((y ||| (2 ^ (t (21 + c)))) ||| 0))), (7, .int (nI (t (21 + c)))), (6, .int (nI (t (12 + c)))), (0, .ref a0), (1, .int (nI st)), (2, .int (nI wo)), (4, .int (nI k))] dX8_live_133 rfl 7 rfl (inc_n c 1) (by decide) rfl ?_
                    refine j_goto C 19 dX8_live_136 (by decide) ?_
                    refine j_lsub [(0, .ref a0), (1, .int (nI st)), (2, .int (nI wo)), (3, .int (nI ((y ||| (2 ^ (t (21 + c)))) ||| 0))), (4, .int (nI k)), (5, .int (nI (c + 1)))] [4, 5, 6, 1, 7, 0] rfl ?_
                    exact ih19 (c + 1) ((y ||| (2 ^ (t (21 + c)))) ||| 0) (⟨by omega, by rw [lvS, ← hz2]; unfold lvC lvB lvA; simp_all⟩) (by omega)
                  · refine j_aload_n (pc' := 114) C dX8_live_113 rfl 3 rfl ?_
                    refine j_iload (pc' := 116) C dX8_live_114 rfl 7 rfl ?_
                    refine j_iconst (v := (nI 1)) (pc' := 117) C dX8_live_116 rfl (by decide +kernel) ?_
                    refine j_cVi (As := [.int (nI c), .int (nI 1)]) (wr := []) (pc' := 120) C (c_X8_isWay (a0 := a0) (th := th) (aX := aX) (ty := ty) (sp := sp) (tk := tk) (pl := pl) (va := va) (fa := fa) (aT := aT) (aD := aD) (aS := aS) (aU := aU) (um := um) (aK := aK) (aI := aI) (aL := aL) (aE := aE) (aF := aF) (sm := sm) (aP := aP) (aW := aW) (sn := sn) (aB := aB) (aM := aM) (t := t) (s := s) (c := c) (bk := true) (hT := by first | assumption | omega) (hS := by first | assumption | omega) (hc := by first | assumption | omega)) Y_X8_isWay (ml_X8_136) [0, 1, 2] [] rfl rfl rfl rfl (by decide) rfl rfl rfl dX8_live_117 rfl rfl rfl (Nat.le_of_ble_eq_true rfl) ⟨Nat.le_of_ble_eq_true rfl, Nat.le_of_ble_eq_true rfl⟩ ⟨Nat.le_of_ble_eq_true rfl, Nat.le_of_ble_eq_true rfl⟩ ⟨rfl, rfl⟩ (fun r10 w1 hQ => ?_)
                    obtain ⟨rfl, rfl⟩ := hQ
                    refine j_b_eq (pc' := 123) C 130 dX8_live_120 (by decide) rfl (fun c120 => ?_) (fun c120 => ?_)
                    · refine j_iconst (v := (nI 0)) (pc' := 131) C dX8_live_130 rfl (by decide +kernel) ?_
                      refine j_ior (v := (nI ((y ||| (2 ^ (t (21 + c)))) ||| 0))) (pc' := 132) C dX8_live_131 rfl (fa_or (y ||| (2 ^ (t (21 + c)))) 0) ?_
                      refine j_istore_n (pc' := 133) C [(3, .int (nI ((y ||| (2 ^ (t (21 + c)))) ||| 0))), (7, .int (nI (t (21 + c)))), (6, .int (nI (t (12 + c)))), (0, .ref a0), (1, .int (nI st)), (2, .int (nI wo)), (4, .int (nI k)), (5, .int (nI c))] dX8_live_132 rfl (by decide) rfl ?_
                      refine j_iinc (v := (nI (c + 1))) (pc' := 136) C [(5, .int (nI (c + 1))), (3, .int (nI ((y ||| (2 ^ (t (21 + c)))) ||| 0))), (7, .int (nI (t (21 + c)))), (6, .int (nI (t (12 + c)))), (0, .ref a0), (1, .int (nI st)), (2, .int (nI wo)), (4, .int (nI k))] dX8_live_133 rfl 7 rfl (inc_n c 1) (by decide) rfl ?_
                      refine j_goto C 19 dX8_live_136 (by decide) ?_
                      refine j_lsub [(0, .ref a0), (1, .int (nI st)), (2, .int (nI wo)), (3, .int (nI ((y ||| (2 ^ (t (21 + c)))) ||| 0))), (4, .int (nI k)), (5, .int (nI (c + 1)))] [4, 5, 6, 1, 7, 0] rfl ?_
                      exact ih19 (c + 1) ((y ||| (2 ^ (t (21 + c)))) ||| 0) (⟨by omega, by rw [lvS, ← hz2]; unfold lvC lvB lvA; simp_all⟩) (by omega)
                    · refine j_iconst (v := (nI 1)) (pc' := 124) C dX8_live_123 rfl (by decide +kernel) ?_
                      refine j_iload (pc' := 126) C dX8_live_124 rfl 2 rfl ?_
                      refine j_ishl (v := (nI (2 ^ (t (12 + c))))) (pc' := 127) C dX8_live_126 rfl (sh_1 (by omega)) ?_
                      refine j_goto C 131 dX8_live_127 (by decide) ?_
                      refine j_ior (v := (nI ((y ||| (2 ^ (t (21 + c)))) ||| (2 ^ (t (12 + c)))))) (pc' := 132) C dX8_live_131 rfl (fa_or (y ||| (2 ^ (t (21 + c)))) (2 ^ (t (12 + c)))) ?_
                      refine j_istore_n (pc' := 133) C [(3, .int (nI ((y ||| (2 ^ (t (21 + c)))) ||| (2 ^ (t (12 + c)))))), (7, .int (nI (t (21 + c)))), (6, .int (nI (t (12 + c)))), (0, .ref a0), (1, .int (nI st)), (2, .int (nI wo)), (4, .int (nI k)), (5, .int (nI c))] dX8_live_132 rfl (by decide) rfl ?_
                      refine j_iinc (v := (nI (c + 1))) (pc' := 136) C [(5, .int (nI (c + 1))), (3, .int (nI ((y ||| (2 ^ (t (21 + c)))) ||| (2 ^ (t (12 + c)))))), (7, .int (nI (t (21 + c)))), (6, .int (nI (t (12 + c)))), (0, .ref a0), (1, .int (nI st)), (2, .int (nI wo)), (4, .int (nI k))] dX8_live_133 rfl 7 rfl (inc_n c 1) (by decide) rfl ?_
                      refine j_goto C 19 dX8_live_136 (by decide) ?_
                      refine j_lsub [(0, .ref a0), (1, .int (nI st)), (2, .int (nI wo)), (3, .int (nI ((y ||| (2 ^ (t (21 + c)))) ||| (2 ^ (t (12 + c)))))), (4, .int (nI k)), (5, .int (nI (c + 1)))] [4, 5, 6, 1, 7, 0] rfl ?_
                      exact ih19 (c + 1) ((y ||| (2 ^ (t (21 + c)))) ||| (2 ^ (t (12 + c)))) (⟨by omega, by rw [lvS, ← hz2]; unfold lvC lvB lvA; simp_all⟩) (by omega)
      · exact ⟨Nat.zero_le _, by rw [hz]; rfl⟩
  · exact ⟨Nat.zero_le _, rfl⟩

set_option maxHeartbeats 4000000 in
set_option maxRecDepth 100000 in
theorem c_X8_isFed {lch : Launch} {dG : va_G} {cyI cyZ cyO : ClassId} (a0 : Nat) (th : Int32) (aX : Nat) (ty : Int32) (sp : Int32) (tk : Int32) (pl : Int32) (va : Int32) (fa : Int32) (aT : Nat) (aD : Nat) (aS : Nat) (aU : Nat) (um : Int32) (aK : Nat) (aI : Nat) (aL : Nat) (aE : Nat) (aF : Nat) (sm : Int32) (aP : Nat) (aW : Nat) (sn : Int32) (aB : Nat) (aM : Nat) (t : Nat → Nat) (s : Nat → Nat) (l : Nat) (st : Nat) (wo : Nat) (hT : WT t) (hS : WS s) (hl : l < t 2) (hst : st < 16) (hwo : wo < 512) : Ki lch yX8_isFed cX8_isFed 4 .boolean (rmk 4) dG (cyI, cyZ, cyO) [.ref a0, .int (nI l), .int (nI st), .int (nI wo)] [(a0, .inr (8, [.int th, .ref aX, .int ty, .int sp, .int tk, .int pl, .int va, .int fa, .ref aT, .ref aD, .ref aS, .ref aU, .int um, .ref aK, .ref aI, .ref aL, .ref aE, .ref aF, .int sm, .ref aP, .ref aW, .int sn, .ref aB, .ref aM])), (aT, .inl (cyI, 42, .inl (nA t))), (aS, .inl (cyI, 30, .inl (nA s)))] (fun r w1 => w1 = [(a0, .inr (8, [.int th, .ref aX, .int ty, .int sp, .int tk, .int pl, .int va, .int fa, .ref aT, .ref aD, .ref aS, .ref aU, .int um, .ref aK, .ref aI, .ref aL, .ref aE, .ref aF, .int sm, .ref aP, .ref aW, .int sn, .ref aB, .ref aM])), (aT, .inl (cyI, 42, .inl (nA t))), (aS, .inl (cyI, 30, .inl (nA s)))] ∧ r = (bI (fedB t s l st wo))) := by
  have h1 := hT.n
  have h2 := hT.l hl
  refine Ki.of (own := RX8) rfl (by decide) (Nat.le_of_ble_eq_true rfl) (fun p0 e0 s0 m0 ar0 be0 me0 cd0 A0 C hr hk hnm hA => ?_)
  refine j_lsub [(0, .ref a0), (1, .int (nI l)), (2, .int (nI st)), (3, .int (nI wo))] [0, 1, 2, 3] rfl ?_
  refine j_aload_n (pc' := 1) C dX8_isFed_0 rfl 0 rfl ?_
  refine j_iload_n (pc' := 2) C dX8_isFed_1 rfl 2 rfl ?_
  refine j_iload_n (pc' := 3) C dX8_isFed_2 rfl 3 rfl ?_
  refine j_cVi (As := [.int (nI st), .int (nI wo)]) (wr := []) (pc' := 6) C (c_X8_live (a0 := a0) (th := th) (aX := aX) (ty := ty) (sp := sp) (tk := tk) (pl := pl) (va := va) (fa := fa) (aT := aT) (aD := aD) (aS := aS) (aU := aU) (um := um) (aK := aK) (aI := aI) (aL := aL) (aE := aE) (aF := aF) (sm := sm) (aP := aP) (aW := aW) (sn := sn) (aB := aB) (aM := aM) (t := t) (s := s) (st := st) (wo := wo) (hT := by first | assumption | omega) (hS := by first | assumption | omega) (hst := by first | assumption | omega) (hwo := by first | assumption | omega)) Y_X8_live (ml_X8_140) [0, 1, 2] [] rfl rfl rfl rfl (by decide) rfl rfl rfl dX8_isFed_3 rfl rfl rfl (Nat.le_of_ble_eq_true rfl) ⟨Nat.le_of_ble_eq_true rfl, Nat.le_of_ble_eq_true rfl⟩ ⟨Nat.le_of_ble_eq_true rfl, Nat.le_of_ble_eq_true rfl⟩ ⟨rfl, rfl⟩ (fun r1 w1 hQ => ?_)
  obtain ⟨rfl, rfl⟩ := hQ
  refine j_aload_n (pc' := 7) C dX8_isFed_6 rfl 0 rfl ?_
  refine j_get (v := .ref aT) (pc' := 10) C KX8 0 8 rfl (by decide) fl_X8_13 rfl rfl dX8_isFed_7 rfl ?_
  refine j_bipush (v := (nI 39)) (pc' := 12) C dX8_isFed_10 rfl (by decide +kernel) ?_
  refine j_iload_n (pc' := 13) C dX8_isFed_12 rfl 1 rfl ?_
  refine j_iadd (v := (nI (39 + l))) (pc' := 14) C dX8_isFed_13 rfl (nI_add 39 l) ?_
  refine j_nald (pc' := 15) C 1 rfl (by omega) (by decide) dX8_isFed_14 rfl ?_
  refine j_cSi (As := [.int (nI (lvR t s st wo (t 0))), .int (nI (t (39 + l)))]) (wr := [(a0, .inr (8, [.int th, .ref aX, .int ty, .int sp, .int tk, .int pl, .int va, .int fa, .ref aT, .ref aD, .ref aS, .ref aU, .int um, .ref aK, .ref aI, .ref aL, .ref aE, .ref aF, .int sm, .ref aP, .ref aW, .int sn, .ref aB, .ref aM])), (aT, .inl (cyI, 42, .inl (nA t))), (aS, .inl (cyI, 30, .inl (nA s)))]) (pc' := 18) C (c_X8_has (a := lvR t s st wo (t 0)) (k := t (39 + l)) (ha := Nat.lt_of_lt_of_le (lvR_lt hT _) (by decide)) (hk9 := by first | assumption | omega)) Y_X8_has (ml_X8_130) [] [0, 1, 2] rfl rfl rfl rfl (by decide) dX8_isFed_15 rfl rfl rfl (Nat.le_of_ble_eq_true rfl) ⟨Nat.le_of_ble_eq_true rfl, Nat.le_of_ble_eq_true rfl⟩ ⟨Nat.le_of_ble_eq_true rfl, Nat.le_of_ble_eq_true rfl⟩ ⟨rfl, rfl⟩ (fun r2 w1 hQ => ?_)
  obtain ⟨rfl, rfl⟩ := hQ
  refine j_perm [(a0, .inr (8, [.int th, .ref aX, .int ty, .int sp, .int tk, .int pl, .int va, .int fa, .ref aT, .ref aD, .ref aS, .ref aU, .int um, .ref aK, .ref aI, .ref aL, .ref aE, .ref aF, .int sm, .ref aP, .ref aW, .int sn, .ref aB, .ref aM])), (aT, .inl (cyI, 42, .inl (nA t))), (aS, .inl (cyI, 30, .inl (nA s)))] [0, 1, 2] rfl rfl (by decide) ?_
  exact j_iret C hr hk hA dX8_isFed_18 (nrw_bI _) (⟨rfl, rfl⟩)

set_option maxHeartbeats 4000000 in
set_option maxRecDepth 100000 in
theorem c_X8_fedIn {lch : Launch} {dG : va_G} {cyI cyZ cyO : ClassId} (a0 : Nat) (th : Int32) (aX : Nat) (ty : Int32) (sp : Int32) (tk : Int32) (pl : Int32) (va : Int32) (fa : Int32) (aT : Nat) (aD : Nat) (aS : Nat) (aU : Nat) (um : Int32) (aK : Nat) (aI : Nat) (aL : Nat) (aE : Nat) (aF : Nat) (sm : Int32) (aP : Nat) (aW : Nat) (sn : Int32) (aB : Nat) (aM : Nat) (t : Nat → Nat) (s : Nat → Nat) (l : Nat) (hT : WT t) (hS : WS s) (hl : l < t 2) : Ki lch yX8_fedIn cX8_fedIn 4 .int (rmk 5) dG (cyI, cyZ, cyO) [.ref a0, .int (nI l)] [(a0, .inr (8, [.int th, .ref aX, .int ty, .int sp, .int tk, .int pl, .int va, .int fa, .ref aT, .ref aD, .ref aS, .ref aU, .int um, .ref aK, .ref aI, .ref aL, .ref aE, .ref aF, .int sm, .ref aP, .ref aW, .int sn, .ref aB, .ref aM])), (aT, .inl (cyI, 42, .inl (nA t))), (aS, .inl (cyI, 30, .inl (nA s)))] (fun r w1 => w1 = [(a0, .inr (8, [.int th, .ref aX, .int ty, .int sp, .int tk, .int pl, .int va, .int fa, .ref aT, .ref aD, .ref aS, .ref aU, .int um, .ref aK, .ref aI, .ref aL, .ref aE, .ref aF, .int sm, .ref aP, .ref aW, .int sn, .ref aB, .ref aM])), (aT, .inl (cyI, 42, .inl (nA t))), (aS, .inl (cyI, 30, .inl (nA s)))] ∧ r = (nI (fedN t s l))) := by
  refine Ki.of (own := RX8) rfl (by decide) (Nat.le_of_ble_eq_true rfl) (fun p0 e0 s0 m0 ar0 be0 me0 cd0 A0 C hr hk hnm hA => ?_)
  refine j_lsub [(0, .ref a0), (1, .int (nI l))] [0, 1] rfl ?_
  refine j_iconst (v := (nI 0)) (pc' := 1) C dX8_fedIn_0 rfl (by decide +kernel) ?_
  refine j_istore_n (pc' := 2) C [(2, .int (nI 0)), (0, .ref a0), (1, .int (nI l))] dX8_fedIn_1 rfl (by decide) rfl ?_
  refine j_iconst (v := (nI 0)) (pc' := 3) C dX8_fedIn_2 rfl (by decide +kernel) ?_
  refine j_istore_n (pc' := 4) C [(3, .int (nI 0)), (2, .int (nI 0)), (0, .ref a0), (1, .int (nI l))] dX8_fedIn_3 rfl (by decide) rfl ?_
  refine j_lsub [(0, .ref a0), (1, .int (nI l)), (2, .int (nI 0)), (3, .int (nI 0))] [2, 3, 1, 0] rfl ?_
  refine j_loop2 (fun (k : Nat) (z : Nat) => [(a0, .inr (8, [.int th, .ref aX, .int ty, .int sp, .int tk, .int pl, .int va, .int fa, .ref aT, .ref aD, .ref aS, .ref aU, .int um, .ref aK, .ref aI, .ref aL, .ref aE, .ref aF, .int sm, .ref aP, .ref aW, .int sn, .ref aB, .ref aM])), (aT, .inl (cyI, 42, .inl (nA t))), (aS, .inl (cyI, 30, .inl (nA s)))]) (fun (k : Nat) (z : Nat) => [(0, .ref a0), (1, .int (nI l)), (2, .int (nI z)), (3, .int (nI k))]) (fun (k : Nat) (z : Nat) => []) (fun (k : Nat) (z : Nat) => k ≤ 16 ∧ z = bsN (fun st => fedB t s l st 0) k) (fun (k : Nat) (z : Nat) => 16 - k) ?_ 0 0 ?_
  · intro k z hI4 ih4
    obtain ⟨hk0, hz⟩ := hI4
    refine j_iload_n (pc' := 5) C dX8_fedIn_4 rfl 3 rfl ?_
    refine j_bipush (v := (nI 16)) (pc' := 7) C dX8_fedIn_5 rfl (by decide +kernel) ?_
    refine j_nc_ge (pc' := 10) C 36 dX8_fedIn_7 (by decide) rfl (by omega) (by omega) (fun c7 => ?_) (fun c7 => ?_)
    · refine j_iload_n (pc' := 37) C dX8_fedIn_36 rfl 2 rfl ?_
      exact j_iret C hr hk hA dX8_fedIn_37 (rfl) (⟨rfl, by rw [hz, show k = 16 by omega]; rfl⟩)
    · refine j_iload_n (pc' := 11) C dX8_fedIn_10 rfl 2 rfl ?_
      refine j_aload_n (pc' := 12) C dX8_fedIn_11 rfl 0 rfl ?_
      refine j_iload_n (pc' := 13) C dX8_fedIn_12 rfl 1 rfl ?_
      refine j_iload_n (pc' := 14) C dX8_fedIn_13 rfl 3 rfl ?_
      refine j_iconst (v := (nI 0)) (pc' := 15) C dX8_fedIn_14 rfl (by decide +kernel) ?_
      refine j_cVi (As := [.int (nI l), .int (nI k), .int (nI 0)]) (wr := []) (pc' := 18) C (c_X8_isFed (a0 := a0) (th := th) (aX := aX) (ty := ty) (sp := sp) (tk := tk) (pl := pl) (va := va) (fa := fa) (aT := aT) (aD := aD) (aS := aS) (aU := aU) (um := um) (aK := aK) (aI := aI) (aL := aL) (aE := aE) (aF := aF) (sm := sm) (aP := aP) (aW := aW) (sn := sn) (aB := aB) (aM := aM) (t := t) (s := s) (l := l) (st := k) (wo := 0) (hT := by first | assumption | omega) (hS := by first | assumption | omega) (hl := by first | assumption | omega) (hst := by first | assumption | omega) (hwo := by first | assumption | omega)) Y_X8_isFed (ml_X8_144) [0, 1, 2] [] rfl rfl rfl rfl (by decide) rfl rfl rfl dX8_fedIn_15 rfl rfl rfl (Nat.le_of_ble_eq_true rfl) ⟨Nat.le_of_ble_eq_true rfl, Nat.le_of_ble_eq_true rfl⟩ ⟨Nat.le_of_ble_eq_true rfl, Nat.le_of_ble_eq_true rfl⟩ ⟨rfl, rfl⟩ (fun r1 w1 hQ => ?_)
      obtain ⟨rfl, rfl⟩ := hQ
      refine j_b_eq (pc' := 21) C 27 dX8_fedIn_18 (by decide) rfl (fun c18 => ?_) (fun c18 => ?_)
      · refine j_iconst (v := (nI 0)) (pc' := 28) C dX8_fedIn_27 rfl (by decide +kernel) ?_
        refine j_ior (v := (nI (z ||| 0))) (pc' := 29) C dX8_fedIn_28 rfl (fa_or z 0) ?_
        refine j_istore_n (pc' := 30) C [(2, .int (nI (z ||| 0))), (0, .ref a0), (1, .int (nI l)), (3, .int (nI k))] dX8_fedIn_29 rfl (by decide) rfl ?_
        refine j_iinc (v := (nI (k + 1))) (pc' := 33) C [(3, .int (nI (k + 1))), (2, .int (nI (z ||| 0))), (0, .ref a0), (1, .int (nI l))] dX8_fedIn_30 rfl 3 rfl (inc_n k 1) (by decide) rfl ?_
        refine j_goto C 4 dX8_fedIn_33 (by decide) ?_
        refine j_lsub [(0, .ref a0), (1, .int (nI l)), (2, .int (nI (z ||| 0))), (3, .int (nI (k + 1)))] [2, 3, 1, 0] rfl ?_
        exact ih4 (k + 1) (z ||| 0) (⟨by omega, by rw [bsN, ← hz]; simp [*]⟩) (by omega)
      · refine j_iconst (v := (nI 1)) (pc' := 22) C dX8_fedIn_21 rfl (by decide +kernel) ?_
        refine j_iload_n (pc' := 23) C dX8_fedIn_22 rfl 3 rfl ?_
        refine j_ishl (v := (nI (2 ^ k))) (pc' := 24) C dX8_fedIn_23 rfl (sh_1 (by omega)) ?_
        refine j_goto C 28 dX8_fedIn_24 (by decide) ?_
        refine j_ior (v := (nI (z ||| (2 ^ k)))) (pc' := 29) C dX8_fedIn_28 rfl (fa_or z (2 ^ k)) ?_
        refine j_istore_n (pc' := 30) C [(2, .int (nI (z ||| (2 ^ k)))), (0, .ref a0), (1, .int (nI l)), (3, .int (nI k))] dX8_fedIn_29 rfl (by decide) rfl ?_
        refine j_iinc (v := (nI (k + 1))) (pc' := 33) C [(3, .int (nI (k + 1))), (2, .int (nI (z ||| (2 ^ k)))), (0, .ref a0), (1, .int (nI l))] dX8_fedIn_30 rfl 3 rfl (inc_n k 1) (by decide) rfl ?_
        refine j_goto C 4 dX8_fedIn_33 (by decide) ?_
        refine j_lsub [(0, .ref a0), (1, .int (nI l)), (2, .int (nI (z ||| (2 ^ k)))), (3, .int (nI (k + 1)))] [2, 3, 1, 0] rfl ?_
        exact ih4 (k + 1) (z ||| (2 ^ k)) (⟨by omega, by rw [bsN, ← hz]; simp [*]⟩) (by omega)
  · exact ⟨Nat.zero_le _, rfl⟩
