set_option maxHeartbeats 4000000 in
set_option maxRecDepth 100000 in
theorem c_X5_arrive_P {lch : Launch} {dG : va_G} {cyI cyZ cyO : ClassId} (aK : Nat) (wb : Int32) (wl : Int32) (wq : Int32) (ww : Int32) (aSl : Nat) (aN : Nat) (aW : Nat) (aTr : Nat) (wg : Int32) (wp : Int32) (f : Nat) (b : Nat) (n : Nat) (q : Nat)  : Kv lch yX5_arrive cX5_arrive 4 (rmk 2) dG (cyI, cyZ, cyO) [.ref aK, .int (nI b), .int (nI n), .int (nI q)] [(aK, .inr (5, [.int (nI f), .int wb, .int wl, .int wq, .int ww, .ref aSl, .ref aN, .ref aW, .ref aTr, .int wg, .int wp, .int (-9)]))] (fun w1 => ∃ (wb1 : Int32), ∃ (wl1 : Int32), ∃ (wq1 : Int32), w1 = [(aK, .inr (5, [.int (nI (f + 1)), .int wb1, .int wl1, .int wq1, .int ww, .ref aSl, .ref aN, .ref aW, .ref aTr, .int wg, .int wp, .int (-9)]))] ∧ (wb1, wl1, wq1) = (if nI f = wp then (nI b, nI n, nI q) else (wb, wl, wq))) := by
  refine Kv.of (own := RX5) rfl (by decide) (Nat.le_of_ble_eq_true rfl) (fun p0 e0 s0 m0 ar0 be0 me0 cd0 A0 C hr hk hnm hA => ?_)
  refine j_lsub [(0, .ref aK), (1, .int (nI b)), (2, .int (nI n)), (3, .int (nI q))] [0, 1, 2, 3] rfl ?_
  refine j_aload_n (pc' := 1) C dX5_arrive_0 rfl 0 rfl ?_
  refine j_get (v := .int (nI f)) (pc' := 4) C KX5 0 0 rfl (by decide) fl_X5_41 rfl rfl dX5_arrive_1 rfl ?_
  refine j_aload_n (pc' := 5) C dX5_arrive_4 rfl 0 rfl ?_
  refine j_get (v := .int wp) (pc' := 8) C KX5 0 10 rfl (by decide) fl_X5_35 rfl rfl dX5_arrive_5 rfl ?_
  refine j_ic_ne (pc' := 11) C 26 dX5_arrive_8 (by decide) rfl (fun c8 => ?_) (fun c8 => ?_)
  · refine j_aload_n (pc' := 27) C dX5_arrive_26 rfl 0 rfl ?_
    refine j_dup (pc' := 28) C dX5_arrive_27 rfl rfl ?_
    refine j_get (v := .int (nI f)) (pc' := 31) C KX5 0 0 rfl (by decide) fl_X5_41 rfl rfl dX5_arrive_28 rfl ?_
    refine j_iconst (v := (nI 1)) (pc' := 32) C dX5_arrive_31 rfl (by decide +kernel) ?_
    refine j_iadd (v := (nI (f + 1))) (pc' := 33) C dX5_arrive_32 rfl (nI_add f 1) ?_
    refine j_put (pc' := 36) C [(aK, .inr (5, [.int (nI (f + 1)), .int wb, .int wl, .int wq, .int ww, .ref aSl, .ref aN, .ref aW, .ref aTr, .int wg, .int wp, .int (-9)]))] KX5 0 0 rfl (by decide) fl_X5_41 rfl rfl rfl rfl (Nat.le_of_ble_eq_true rfl) dX5_arrive_33 rfl rfl ?_
    refine j_aload_n (pc' := 37) C dX5_arrive_36 rfl 0 rfl ?_
    refine j_get (v := .int (-9)) (pc' := 40) C KX5 0 11 rfl (by decide) fl_X5_38 rfl rfl dX5_arrive_37 rfl ?_
    refine j_if_lt (pc' := 43) C 88 dX5_arrive_40 (by decide) rfl (fun c40 => ?_) (fun c40 => ?_)
    · exact j_vret C hr hk hA dX5_arrive_88 (⟨_, _, _, rfl, by rw [if_neg c8]⟩)
    · exact absurd c40 (by decide +kernel)
  · refine j_aload_n (pc' := 12) C dX5_arrive_11 rfl 0 rfl ?_
    refine j_iload_n (pc' := 13) C dX5_arrive_12 rfl 1 rfl ?_
    refine j_put (pc' := 16) C [(aK, .inr (5, [.int (nI f), .int (nI b), .int wl, .int wq, .int ww, .ref aSl, .ref aN, .ref aW, .ref aTr, .int wg, .int wp, .int (-9)]))] KX5 0 1 rfl (by decide) fl_X5_68 rfl rfl rfl rfl (Nat.le_of_ble_eq_true rfl) dX5_arrive_13 rfl rfl ?_
    refine j_aload_n (pc' := 17) C dX5_arrive_16 rfl 0 rfl ?_
    refine j_iload_n (pc' := 18) C dX5_arrive_17 rfl 2 rfl ?_
    refine j_put (pc' := 21) C [(aK, .inr (5, [.int (nI f), .int (nI b), .int (nI n), .int wq, .int ww, .ref aSl, .ref aN, .ref aW, .ref aTr, .int wg, .int wp, .int (-9)]))] KX5 0 2 rfl (by decide) fl_X5_71 rfl rfl rfl rfl (Nat.le_of_ble_eq_true rfl) dX5_arrive_18 rfl rfl ?_
    refine j_aload_n (pc' := 22) C dX5_arrive_21 rfl 0 rfl ?_
    refine j_iload_n (pc' := 23) C dX5_arrive_22 rfl 3 rfl ?_
    refine j_put (pc' := 26) C [(aK, .inr (5, [.int (nI f), .int (nI b), .int (nI n), .int (nI q), .int ww, .ref aSl, .ref aN, .ref aW, .ref aTr, .int wg, .int wp, .int (-9)]))] KX5 0 3 rfl (by decide) fl_X5_74 rfl rfl rfl rfl (Nat.le_of_ble_eq_true rfl) dX5_arrive_23 rfl rfl ?_
    refine j_aload_n (pc' := 27) C dX5_arrive_26 rfl 0 rfl ?_
    refine j_dup (pc' := 28) C dX5_arrive_27 rfl rfl ?_
    refine j_get (v := .int (nI f)) (pc' := 31) C KX5 0 0 rfl (by decide) fl_X5_41 rfl rfl dX5_arrive_28 rfl ?_
    refine j_iconst (v := (nI 1)) (pc' := 32) C dX5_arrive_31 rfl (by decide +kernel) ?_
    refine j_iadd (v := (nI (f + 1))) (pc' := 33) C dX5_arrive_32 rfl (nI_add f 1) ?_
    refine j_put (pc' := 36) C [(aK, .inr (5, [.int (nI (f + 1)), .int (nI b), .int (nI n), .int (nI q), .int ww, .ref aSl, .ref aN, .ref aW, .ref aTr, .int wg, .int wp, .int (-9)]))] KX5 0 0 rfl (by decide) fl_X5_41 rfl rfl rfl rfl (Nat.le_of_ble_eq_true rfl) dX5_arrive_33 rfl rfl ?_
    refine j_aload_n (pc' := 37) C dX5_arrive_36 rfl 0 rfl ?_
    refine j_get (v := .int (-9)) (pc' := 40) C KX5 0 11 rfl (by decide) fl_X5_38 rfl rfl dX5_arrive_37 rfl ?_
    refine j_if_lt (pc' := 43) C 88 dX5_arrive_40 (by decide) rfl (fun c40 => ?_) (fun c40 => ?_)
    · exact j_vret C hr hk hA dX5_arrive_88 (⟨_, _, _, rfl, by rw [if_pos (Classical.not_not.mp c8)]⟩)
    · exact absurd c40 (by decide +kernel)

set_option maxHeartbeats 4000000 in
set_option maxRecDepth 100000 in
theorem c_X5_arrive_S {lch : Launch} {dG : va_G} {cyI cyZ cyO : ClassId} (aK : Nat) (wb : Int32) (wl : Int32) (wq : Int32) (aSl : Nat) (aN : Nat) (aW : Nat) (aTr : Nat) (wg : Int32) (tr : Nat → Nat) (stl : Nat → Nat) (f : Nat) (st : Nat) (fw : Nat) (b : Nat) (n : Nat) (q : Nat) (hf : f < 2147483648) (hst : st < 16) (hn : n ≤ 7) (hq : q < 65536) (hfw : fw ≤ 7) : Kv lch yX5_arrive cX5_arrive 4 (rmk 2) dG (cyI, cyZ, cyO) [.ref aK, .int (nI b), .int (nI n), .int (nI q)] [(aK, .inr (5, [.int (nI f), .int wb, .int wl, .int wq, .int (nI fw), .ref aSl, .ref aN, .ref aW, .ref aTr, .int wg, .int (-9), .int (nI st)])), (aTr, .inl (cyI, 7, .inl (nA tr))), (aSl, .inl (cyI, 7, .inl (nA stl)))] (fun w1 => ∃ (fw1 : Nat), ∃ (stl1 : Nat → Nat), w1 = [(aK, .inr (5, [.int (nI (f + 1)), .int wb, .int wl, .int wq, .int (nI fw1), .ref aSl, .ref aN, .ref aW, .ref aTr, .int wg, .int (-9), .int (nI st)])), (aTr, .inl (cyI, 7, .inl (nA tr))), (aSl, .inl (cyI, 7, .inl (nA stl1)))] ∧ ((q.testBit st = true ∧ (fw = 0 ∨ n < fw) ∧ fw1 = n ∧ stl1 = cpN tr stl 0 0 n) ∨ (¬ (q.testBit st = true ∧ (fw = 0 ∨ n < fw)) ∧ fw1 = fw ∧ stl1 = stl))) := by
  refine Kv.of (own := RX5) rfl (by decide) (Nat.le_of_ble_eq_true rfl) (fun p0 e0 s0 m0 ar0 be0 me0 cd0 A0 C hr hk hnm hA => ?_)
  refine j_lsub [(0, .ref aK), (1, .int (nI b)), (2, .int (nI n)), (3, .int (nI q))] [0, 1, 2, 3] rfl ?_
  refine j_aload_n (pc' := 1) C dX5_arrive_0 rfl 0 rfl ?_
  refine j_get (v := .int (nI f)) (pc' := 4) C KX5 0 0 rfl (by decide) fl_X5_41 rfl rfl dX5_arrive_1 rfl ?_
  refine j_aload_n (pc' := 5) C dX5_arrive_4 rfl 0 rfl ?_
  refine j_get (v := .int (-9)) (pc' := 8) C KX5 0 10 rfl (by decide) fl_X5_35 rfl rfl dX5_arrive_5 rfl ?_
  refine j_ic_ne (pc' := 11) C 26 dX5_arrive_8 (by decide) rfl (fun c8 => ?_) (fun c8 => ?_)
  · refine j_aload_n (pc' := 27) C dX5_arrive_26 rfl 0 rfl ?_
    refine j_dup (pc' := 28) C dX5_arrive_27 rfl rfl ?_
    refine j_get (v := .int (nI f)) (pc' := 31) C KX5 0 0 rfl (by decide) fl_X5_41 rfl rfl dX5_arrive_28 rfl ?_
    refine j_iconst (v := (nI 1)) (pc' := 32) C dX5_arrive_31 rfl (by decide +kernel) ?_
    refine j_iadd (v := (nI (f + 1))) (pc' := 33) C dX5_arrive_32 rfl (nI_add f 1) ?_
    refine j_put (pc' := 36) C [(aK, .inr (5, [.int (nI (f + 1)), .int wb, .int wl, .int wq, .int (nI fw), .ref aSl, .ref aN, .ref aW, .ref aTr, .int wg, .int (-9), .int (nI st)])), (aTr, .inl (cyI, 7, .inl (nA tr))), (aSl, .inl (cyI, 7, .inl (nA stl)))] KX5 0 0 rfl (by decide) fl_X5_41 rfl rfl rfl rfl (Nat.le_of_ble_eq_true rfl) dX5_arrive_33 rfl rfl ?_
    refine j_aload_n (pc' := 37) C dX5_arrive_36 rfl 0 rfl ?_
    refine j_get (v := .int (nI st)) (pc' := 40) C KX5 0 11 rfl (by decide) fl_X5_38 rfl rfl dX5_arrive_37 rfl ?_
    refine j_if_lt (pc' := 43) C 88 dX5_arrive_40 (by decide) rfl (fun c40 => ?_) (fun c40 => ?_)
    · exact absurd c40 (nI_pos (by omega))
    · refine j_iload_n (pc' := 44) C dX5_arrive_43 rfl 3 rfl ?_
      refine j_aload_n (pc' := 45) C dX5_arrive_44 rfl 0 rfl ?_
      refine j_get (v := .int (nI st)) (pc' := 48) C KX5 0 11 rfl (by decide) fl_X5_38 rfl rfl dX5_arrive_45 rfl ?_
      refine j_ishr (v := (nI (q >>> st))) (pc' := 49) C dX5_arrive_48 rfl (sh_r (by omega) (by omega)) ?_
      refine j_iconst (v := (nI 1)) (pc' := 50) C dX5_arrive_49 rfl (by decide +kernel) ?_
      refine j_iand (v := (bI (Nat.testBit q st))) (pc' := 51) C dX5_arrive_50 rfl (tb_bit _ _) ?_
      refine j_b_eq (pc' := 54) C 88 dX5_arrive_51 (by decide) rfl (fun c51 => ?_) (fun c51 => ?_)
      · exact j_vret C hr hk hA dX5_arrive_88 (⟨_, _, rfl, Or.inr ⟨fun q9 => absurd q9.1 (by rw [c51]; decide), rfl, rfl⟩⟩)
      · refine j_aload_n (pc' := 55) C dX5_arrive_54 rfl 0 rfl ?_
        refine j_get (v := .int (nI fw)) (pc' := 58) C KX5 0 4 rfl (by decide) fl_X5_44 rfl rfl dX5_arrive_55 rfl ?_
        refine j_nz_eq (pc' := 61) C 69 dX5_arrive_58 (by decide) rfl (by omega) (fun c58 => ?_) (fun c58 => ?_)
        · refine j_aload_n (pc' := 70) C dX5_arrive_69 rfl 0 rfl ?_
          refine j_iload_n (pc' := 71) C dX5_arrive_70 rfl 2 rfl ?_
          refine j_put (pc' := 74) C [(aK, .inr (5, [.int (nI (f + 1)), .int wb, .int wl, .int wq, .int (nI n), .ref aSl, .ref aN, .ref aW, .ref aTr, .int wg, .int (-9), .int (nI st)])), (aTr, .inl (cyI, 7, .inl (nA tr))), (aSl, .inl (cyI, 7, .inl (nA stl)))] KX5 0 4 rfl (by decide) fl_X5_44 rfl rfl rfl rfl (Nat.le_of_ble_eq_true rfl) dX5_arrive_71 rfl rfl ?_
          refine j_aload_n (pc' := 75) C dX5_arrive_74 rfl 0 rfl ?_
          refine j_get (v := .ref aTr) (pc' := 78) C KX5 0 8 rfl (by decide) fl_X5_15 rfl rfl dX5_arrive_75 rfl ?_
          refine j_iconst (v := (nI 0)) (pc' := 79) C dX5_arrive_78 rfl (by decide +kernel) ?_
          refine j_aload_n (pc' := 80) C dX5_arrive_79 rfl 0 rfl ?_
          refine j_get (v := .ref aSl) (pc' := 83) C KX5 0 5 rfl (by decide) fl_X5_9 rfl rfl dX5_arrive_80 rfl ?_
          refine j_iconst (v := (nI 0)) (pc' := 84) C dX5_arrive_83 rfl (by decide +kernel) ?_
          refine j_iload_n (pc' := 85) C dX5_arrive_84 rfl 2 rfl ?_
          refine j_copy (pc' := 88) C ml_X5_76 [(aK, .inr (5, [.int (nI (f + 1)), .int wb, .int wl, .int wq, .int (nI n), .ref aSl, .ref aN, .ref aW, .ref aTr, .int wg, .int (-9), .int (nI st)])), (aTr, .inl (cyI, 7, .inl (nA tr))), (aSl, .inl (cyI, 7, .inl (nA (cpN tr stl 0 0 n))))] 1 2 rfl rfl (by omega) (by omega) (by omega) (by decide) (by decide +kernel) dX5_arrive_85 rfl rfl ?_
          exact j_vret C hr hk hA dX5_arrive_88 (⟨_, _, rfl, Or.inl ⟨c51, by omega, rfl, rfl⟩⟩)
        · refine j_iload_n (pc' := 62) C dX5_arrive_61 rfl 2 rfl ?_
          refine j_aload_n (pc' := 63) C dX5_arrive_62 rfl 0 rfl ?_
          refine j_get (v := .int (nI fw)) (pc' := 66) C KX5 0 4 rfl (by decide) fl_X5_44 rfl rfl dX5_arrive_63 rfl ?_
          refine j_nc_ge (pc' := 69) C 88 dX5_arrive_66 (by decide) rfl (by omega) (by omega) (fun c66 => ?_) (fun c66 => ?_)
          · exact j_vret C hr hk hA dX5_arrive_88 (⟨_, _, rfl, Or.inr ⟨fun q9 => by omega, rfl, rfl⟩⟩)
          · refine j_aload_n (pc' := 70) C dX5_arrive_69 rfl 0 rfl ?_
            refine j_iload_n (pc' := 71) C dX5_arrive_70 rfl 2 rfl ?_
            refine j_put (pc' := 74) C [(aK, .inr (5, [.int (nI (f + 1)), .int wb, .int wl, .int wq, .int (nI n), .ref aSl, .ref aN, .ref aW, .ref aTr, .int wg, .int (-9), .int (nI st)])), (aTr, .inl (cyI, 7, .inl (nA tr))), (aSl, .inl (cyI, 7, .inl (nA stl)))] KX5 0 4 rfl (by decide) fl_X5_44 rfl rfl rfl rfl (Nat.le_of_ble_eq_true rfl) dX5_arrive_71 rfl rfl ?_
            refine j_aload_n (pc' := 75) C dX5_arrive_74 rfl 0 rfl ?_
            refine j_get (v := .ref aTr) (pc' := 78) C KX5 0 8 rfl (by decide) fl_X5_15 rfl rfl dX5_arrive_75 rfl ?_
            refine j_iconst (v := (nI 0)) (pc' := 79) C dX5_arrive_78 rfl (by decide +kernel) ?_
            refine j_aload_n (pc' := 80) C dX5_arrive_79 rfl 0 rfl ?_
            refine j_get (v := .ref aSl) (pc' := 83) C KX5 0 5 rfl (by decide) fl_X5_9 rfl rfl dX5_arrive_80 rfl ?_
            refine j_iconst (v := (nI 0)) (pc' := 84) C dX5_arrive_83 rfl (by decide +kernel) ?_
            refine j_iload_n (pc' := 85) C dX5_arrive_84 rfl 2 rfl ?_
            refine j_copy (pc' := 88) C ml_X5_76 [(aK, .inr (5, [.int (nI (f + 1)), .int wb, .int wl, .int wq, .int (nI n), .ref aSl, .ref aN, .ref aW, .ref aTr, .int wg, .int (-9), .int (nI st)])), (aTr, .inl (cyI, 7, .inl (nA tr))), (aSl, .inl (cyI, 7, .inl (nA (cpN tr stl 0 0 n))))] 1 2 rfl rfl (by omega) (by omega) (by omega) (by decide) (by decide +kernel) dX5_arrive_85 rfl rfl ?_
            exact j_vret C hr hk hA dX5_arrive_88 (⟨_, _, rfl, Or.inl ⟨c51, by omega, rfl, rfl⟩⟩)
  · exact absurd c8 (fun q9 => q9 (n9 (by omega)))

set_option maxHeartbeats 4000000 in
set_option maxRecDepth 100000 in
theorem c_X5_goOn_P {lch : Launch} {dG : va_G} {cyI cyZ cyO : ClassId} : ∀ (fu : Nat) (aK : Nat) (wb : Int32) (wl : Int32) (wq : Int32) (ww : Int32) (aSl : Nat) (aN : Nat) (aW : Nat) (aTr : Nat) (wp : Int32) (tr : Nat → Nat) (aSh : Nat) (aO : Nat) (aFo : Nat) (aBa : Nat) (aRc : Nat) (gr : Bool) (sh : Nat → Nat) (fo : Nat → Bool) (ba : Nat → Bool) (t : Nat → Nat) (aKd : Nat) (aFi : Nat) (aSe : Nat) (aSb : Nat) (aLd : Nat) (fi : Nat → Nat) (se : Nat → Nat) (s : Nat → Nat) (f : Nat) (g : Nat) (a : Nat) (vs : Nat) (cbx : Nat) (dep : Nat) (q : Nat) (pl0 : List Nat) (wh : Nat → Nat) (hT : WT t) (hfi : ∀ c, c < t 1 → fi c = t (12 + c)) (hse : ∀ c, c < t 1 → se c = t (21 + c)) (hL : LDn t s sh fo ba (t 1)) (hg : g < 7) (hdp : dep + fu = 7) (hVW : VW t wh dep) (ha : a = wh dep) (hvs : vs = vsN wh (dep + 1)) (hcb : cbx = bitL pl0) (hq : q = shP t s pl0) (hpl : pl0.length = dep), Kv lch yX5_goOn cX5_goOn 8 (rmk (3 + fu)) dG (cyI, cyZ, cyO) [.ref aK, .int (nI a), .int (nI vs), .int (nI cbx), .int (nI dep), .int (nI q)] [(aK, .inr (5, [.int (nI f), .int wb, .int wl, .int wq, .int ww, .ref aSl, .ref aN, .ref aW, .ref aTr, .int (nI g), .int wp, .int (-9)])), (aTr, .inl (cyI, 7, .inl (nA tr))), (aW, .inr (6, [.ref aSh, .ref aN, .ref aO, .ref aFo, .ref aBa, .ref aRc, .int (bI gr)])), (aSh, .inl (cyI, 9, .inl (nA sh))), (aFo, .inl (cyZ, 9, .inl (bA fo))), (aBa, .inl (cyZ, 9, .inl (bA ba))), (aN, .inr (1, [.int (nI (t 0)), .int (nI (t 1)), .int (nI (t 2)), .ref aKd, .ref aFi, .ref aSe, .ref aSb, .ref aLd])), (aFi, .inl (cyI, 9, .inl (nA fi))), (aSe, .inl (cyI, 9, .inl (nA se)))] (fun w1 => ∃ (wb1 : Int32), ∃ (wl1 : Int32), ∃ (wq1 : Int32), ∃ (tr1 : Nat → Nat), w1 = [(aK, .inr (5, [.int (nI (f + (pF t s g fu vs a).length)), .int wb1, .int wl1, .int wq1, .int ww, .ref aSl, .ref aN, .ref aW, .ref aTr, .int (nI g), .int wp, .int (-9)])), (aTr, .inl (cyI, 7, .inl (nA tr1))), (aW, .inr (6, [.ref aSh, .ref aN, .ref aO, .ref aFo, .ref aBa, .ref aRc, .int (bI gr)])), (aSh, .inl (cyI, 9, .inl (nA sh))), (aFo, .inl (cyZ, 9, .inl (bA fo))), (aBa, .inl (cyZ, 9, .inl (bA ba))), (aN, .inr (1, [.int (nI (t 0)), .int (nI (t 1)), .int (nI (t 2)), .ref aKd, .ref aFi, .ref aSe, .ref aSb, .ref aLd])), (aFi, .inl (cyI, 9, .inl (nA fi))), (aSe, .inl (cyI, 9, .inl (nA se)))] ∧ (wb1, wl1, wq1) = selP t s wp f ((pF t s g fu vs a).map (fun p => pl0 ++ p)) (wb, wl, wq)) := by
  intro fu
  induction fu with
  | zero =>
    intro aK wb wl wq ww aSl aN aW aTr wp tr aSh aO aFo aBa aRc gr sh fo ba t aKd aFi aSe aSb aLd fi se s f g a vs cbx dep q pl0 wh hT hfi hse hL hg hdp hVW ha hvs hcb hq hpl
    exact absurd (VW_6 hT hVW) (by omega)
  | succ fu ih =>
    intro aK wb wl wq ww aSl aN aW aTr wp tr aSh aO aFo aBa aRc gr sh fo ba t aKd aFi aSe aSb aLd fi se s f g a vs cbx dep q pl0 wh hT hfi hse hL hg hdp hVW ha hvs hcb hq hpl
    have h1 := hT.n
    have h6 := VW_6 hT hVW
    have ha7 := hVW.1 dep (Nat.le_refl _)
    have hv7 : vs < 2147483648 := by rw [hvs]; exact Nat.lt_trans (vsN_lt (fun i hi => by have := hVW.1 i (by omega); omega)) (by decide)
    refine Kv.of (own := RX5) rfl (by decide) (Nat.le_of_ble_eq_true rfl) (fun p0 e0 s0 m0 ar0 be0 me0 cd0 A0 C hr hk hnm hA => ?_)
    refine j_lsub [(0, .ref aK), (1, .int (nI a)), (2, .int (nI vs)), (3, .int (nI cbx)), (4, .int (nI dep)), (5, .int (nI q))] [0, 1, 2, 3, 4, 5] rfl ?_
    refine j_iload_n (pc' := 1) C dX5_goOn_0 rfl 1 rfl ?_
    refine j_aload_n (pc' := 2) C dX5_goOn_1 rfl 0 rfl ?_
    refine j_get (v := .int (nI g)) (pc' := 5) C KX5 0 9 rfl (by decide) fl_X5_31 rfl rfl dX5_goOn_2 rfl ?_
    refine j_nc_ne (pc' := 8) C 18 dX5_goOn_5 (by decide) rfl (by omega) (by omega) (fun c5 => ?_) (fun c5 => ?_)
    · refine j_iload (pc' := 20) C dX5_goOn_18 rfl 4 rfl ?_
      refine j_bipush (v := (nI 7)) (pc' := 22) C dX5_goOn_20 rfl (by decide +kernel) ?_
      refine j_nc_lt (pc' := 25) C 26 dX5_goOn_22 (by decide) rfl (by omega) (by omega) (fun c22 => ?_) (fun c22 => ?_)
      · refine j_iconst (v := (nI 0)) (pc' := 27) C dX5_goOn_26 rfl (by decide +kernel) ?_
        refine j_istore (pc' := 29) C [(6, .int (nI 0)), (0, .ref aK), (1, .int (nI a)), (2, .int (nI vs)), (3, .int (nI cbx)), (4, .int (nI dep)), (5, .int (nI q))] dX5_goOn_27 rfl (by decide) rfl ?_
        refine j_lsub [(0, .ref aK), (1, .int (nI a)), (2, .int (nI vs)), (3, .int (nI cbx)), (4, .int (nI dep)), (5, .int (nI q)), (6, .int (nI 0))] [1, 2, 3, 4, 5, 6, 0] rfl ?_
        refine j_loop6 (fun (c : Nat) (f2 : Nat) (wb2 : Int32) (wl2 : Int32) (wq2 : Int32) (tr2 : Nat → Nat) => [(aK, .inr (5, [.int (nI f2), .int wb2, .int wl2, .int wq2, .int ww, .ref aSl, .ref aN, .ref aW, .ref aTr, .int (nI g), .int wp, .int (-9)])), (aTr, .inl (cyI, 7, .inl (nA tr2))), (aW, .inr (6, [.ref aSh, .ref aN, .ref aO, .ref aFo, .ref aBa, .ref aRc, .int (bI gr)])), (aSh, .inl (cyI, 9, .inl (nA sh))), (aFo, .inl (cyZ, 9, .inl (bA fo))), (aBa, .inl (cyZ, 9, .inl (bA ba))), (aN, .inr (1, [.int (nI (t 0)), .int (nI (t 1)), .int (nI (t 2)), .ref aKd, .ref aFi, .ref aSe, .ref aSb, .ref aLd])), (aFi, .inl (cyI, 9, .inl (nA fi))), (aSe, .inl (cyI, 9, .inl (nA se)))]) (fun (c : Nat) (f2 : Nat) (wb2 : Int32) (wl2 : Int32) (wq2 : Int32) (tr2 : Nat → Nat) => [(0, .ref aK), (1, .int (nI a)), (2, .int (nI vs)), (3, .int (nI cbx)), (4, .int (nI dep)), (5, .int (nI q)), (6, .int (nI c))]) (fun (c : Nat) (f2 : Nat) (wb2 : Int32) (wl2 : Int32) (wq2 : Int32) (tr2 : Nat → Nat) => []) (fun (c : Nat) (f2 : Nat) (wb2 : Int32) (wl2 : Int32) (wq2 : Int32) (tr2 : Nat → Nat) => c ≤ t 1 ∧ f2 + (pR (pF t s g fu) t s vs a (t 1 - c)).length = f + (pR (pF t s g fu) t s vs a (t 1)).length ∧ selP t s wp f2 ((pR (pF t s g fu) t s vs a (t 1 - c)).map (fun p => pl0 ++ p)) (wb2, wl2, wq2) = selP t s wp f ((pR (pF t s g fu) t s vs a (t 1)).map (fun p => pl0 ++ p)) (wb, wl, wq)) (fun (c : Nat) (f2 : Nat) (wb2 : Int32) (wl2 : Int32) (wq2 : Int32) (tr2 : Nat → Nat) => t 1 - c) ?_ 0 f wb wl wq tr ?_
        · intro c f2 wb2 wl2 wq2 tr2 hI29 ih29
          obtain ⟨hc0, hlen, hsel⟩ := hI29
          refine j_iload (pc' := 31) C dX5_goOn_29 rfl 6 rfl ?_
          refine j_aload_n (pc' := 32) C dX5_goOn_31 rfl 0 rfl ?_
          refine j_get (v := .ref aN) (pc' := 35) C KX5 0 6 rfl (by decide) fl_X5_18 rfl rfl dX5_goOn_32 rfl ?_
          refine j_get (v := .int (nI (t 1))) (pc' := 38) C KX1 6 1 rfl (by decide) fl_X5_56 rfl rfl dX5_goOn_35 rfl ?_
          refine j_nc_ge (pc' := 41) C 117 dX5_goOn_38 (by decide) rfl (by omega) (by omega) (fun c38 => ?_) (fun c38 => ?_)
          · have hLe : pF t s g (fu + 1) vs a = (pR (pF t s g fu) t s vs a (t 1)) := by rw [pF_s, if_neg c5]
            rw [show t 1 - c = 0 by omega, pR] at hlen hsel
            exact j_vret C hr hk hA dX5_goOn_117 (⟨_, _, _, _, by rw [hLe, ← hlen]; rfl, by rw [hLe, ← hsel]; rfl⟩)
          · have hL1 := hL c c38
            refine j_aload_n (pc' := 42) C dX5_goOn_41 rfl 0 rfl ?_
            refine j_get (v := .ref aW) (pc' := 45) C KX5 0 7 rfl (by decide) fl_X5_22 rfl rfl dX5_goOn_42 rfl ?_
            refine j_iload (pc' := 47) C dX5_goOn_45 rfl 6 rfl ?_
            refine j_iload_n (pc' := 48) C dX5_goOn_47 rfl 1 rfl ?_
            refine j_cVi (As := [.int (nI c), .int (nI a)]) (wr := [(aK, .inr (5, [.int (nI f2), .int wb2, .int wl2, .int wq2, .int ww, .ref aSl, .ref aN, .ref aW, .ref aTr, .int (nI g), .int wp, .int (-9)])), (aTr, .inl (cyI, 7, .inl (nA tr2))), (aSh, .inl (cyI, 9, .inl (nA sh)))]) (pc' := 51) C (c_X6_nodeBehind (aW := aW) (aSh := aSh) (aN := aN) (aO := aO) (aFo := aFo) (aBa := aBa) (aRc := aRc) (gr := gr) (fo := fo) (ba := ba) (t := t) (aKd := aKd) (aFi := aFi) (aSe := aSe) (aSb := aSb) (aLd := aLd) (fi := fi) (se := se) (s := s) (c := c) (a := a) (hT := by first | assumption | omega) (hfi := by first | assumption | omega) (hse := by first | assumption | omega) (hc := c38) (hfo := (hL c c38).2.2.1) (hba := (hL c c38).2.2.2) (ha := by omega)) Y_X6_nodeBehind (ml_X5_59) [2, 4, 5, 6, 7, 8] [0, 1, 3] rfl rfl rfl rfl (by decide) rfl rfl rfl dX5_goOn_48 rfl rfl rfl (Nat.le_of_ble_eq_true rfl) ⟨by simp only [rmk]; omega, by simp only [rmk]; omega⟩ ⟨Nat.le_of_ble_eq_true rfl, Nat.le_of_ble_eq_true rfl⟩ ⟨rfl, rfl⟩ (fun r1 w1 hQ => ?_)
            obtain ⟨rfl, hF48⟩ := hQ
            refine j_perm [(aK, .inr (5, [.int (nI f2), .int wb2, .int wl2, .int wq2, .int ww, .ref aSl, .ref aN, .ref aW, .ref aTr, .int (nI g), .int wp, .int (-9)])), (aTr, .inl (cyI, 7, .inl (nA tr2))), (aW, .inr (6, [.ref aSh, .ref aN, .ref aO, .ref aFo, .ref aBa, .ref aRc, .int (bI gr)])), (aSh, .inl (cyI, 9, .inl (nA sh))), (aFo, .inl (cyZ, 9, .inl (bA fo))), (aBa, .inl (cyZ, 9, .inl (bA ba))), (aN, .inr (1, [.int (nI (t 0)), .int (nI (t 1)), .int (nI (t 2)), .ref aKd, .ref aFi, .ref aSe, .ref aSb, .ref aLd])), (aFi, .inl (cyI, 9, .inl (nA fi))), (aSe, .inl (cyI, 9, .inl (nA se)))] [0, 1, 3, 2, 4, 5, 6, 7, 8] rfl rfl (by decide) ?_
            rcases hF48 with ⟨htn, rfl⟩ | ⟨v, hts, rfl, htv⟩
            · refine j_istore (pc' := 53) C [(7, .int (-9)), (0, .ref aK), (1, .int (nI a)), (2, .int (nI vs)), (3, .int (nI cbx)), (4, .int (nI dep)), (5, .int (nI q)), (6, .int (nI c))] dX5_goOn_51 rfl (by decide) rfl ?_
              refine j_iload (pc' := 55) C dX5_goOn_53 rfl 0 rfl ?_
              refine j_if_lt (pc' := 58) C 111 dX5_goOn_55 (by decide) rfl (fun c55 => ?_) (fun c55 => ?_)
              · refine j_iinc (v := (nI (c + 1))) (pc' := 114) C [(6, .int (nI (c + 1))), (7, .int (-9)), (0, .ref aK), (1, .int (nI a)), (2, .int (nI vs)), (3, .int (nI cbx)), (4, .int (nI dep)), (5, .int (nI q))] dX5_goOn_111 rfl 7 rfl (inc_n c 1) (by decide) rfl ?_
                refine j_goto C 29 dX5_goOn_114 (by decide) ?_
                refine j_lsub [(0, .ref aK), (1, .int (nI a)), (2, .int (nI vs)), (3, .int (nI cbx)), (4, .int (nI dep)), (5, .int (nI q)), (6, .int (nI (c + 1)))] [2, 3, 4, 5, 6, 7, 0] rfl ?_
                exact ih29 (c + 1) f2 wb2 wl2 wq2 tr2 (⟨by omega, by rw [← hlen, pR_c c38 (nxB_no htn)], by rw [← hsel, pR_c c38 (nxB_no htn)]⟩) (by omega)
              · exact absurd c55 (by decide +kernel)
            · refine j_istore (pc' := 53) C [(7, .int (nI v)), (0, .ref aK), (1, .int (nI a)), (2, .int (nI vs)), (3, .int (nI cbx)), (4, .int (nI dep)), (5, .int (nI q)), (6, .int (nI c))] dX5_goOn_51 rfl (by decide) rfl ?_
              refine j_iload (pc' := 55) C dX5_goOn_53 rfl 0 rfl ?_
              refine j_if_lt (pc' := 58) C 111 dX5_goOn_55 (by decide) rfl (fun c55 => ?_) (fun c55 => ?_)
              · exact absurd c55 (nI_pos (by omega))
              · refine j_iload_n (pc' := 59) C dX5_goOn_58 rfl 3 rfl ?_
                refine j_iload (pc' := 61) C dX5_goOn_59 rfl 0 rfl ?_
                refine j_ishr (v := (nI (vs >>> v))) (pc' := 62) C dX5_goOn_61 rfl (sh_r hv7 (by omega)) ?_
                refine j_iconst (v := (nI 1)) (pc' := 63) C dX5_goOn_62 rfl (by decide +kernel) ?_
                refine j_iand (v := (bI (Nat.testBit vs v))) (pc' := 64) C dX5_goOn_63 rfl (tb_bit _ _) ?_
                refine j_b_ne (pc' := 67) C 111 dX5_goOn_64 (by decide) rfl (fun c64 => ?_) (fun c64 => ?_)
                · refine j_iinc (v := (nI (c + 1))) (pc' := 114) C [(6, .int (nI (c + 1))), (7, .int (nI v)), (0, .ref aK), (1, .int (nI a)), (2, .int (nI vs)), (3, .int (nI cbx)), (4, .int (nI dep)), (5, .int (nI q))] dX5_goOn_111 rfl 7 rfl (inc_n c 1) (by decide) rfl ?_
                  refine j_goto C 29 dX5_goOn_114 (by decide) ?_
                  refine j_lsub [(0, .ref aK), (1, .int (nI a)), (2, .int (nI vs)), (3, .int (nI cbx)), (4, .int (nI dep)), (5, .int (nI q)), (6, .int (nI (c + 1)))] [2, 3, 4, 5, 6, 7, 0] rfl ?_
                  exact ih29 (c + 1) f2 wb2 wl2 wq2 tr2 (⟨by omega, by rw [← hlen, pR_c c38 (nxB_vs hts c64)], by rw [← hsel, pR_c c38 (nxB_vs hts c64)]⟩) (by omega)
                · have c64b : (vsN wh (dep + 1)).testBit v = false := by rw [← hvs]; exact c64
                  have hnx : nxB t s vs a c = some v := nxB_ok hts c64
                  have hcl := pR_d (F := pF t s g fu) c38 hnx
                  refine j_aload_n (pc' := 68) C dX5_goOn_67 rfl 1 rfl ?_
                  refine j_get (v := .ref aTr) (pc' := 71) C KX5 0 8 rfl (by decide) fl_X5_15 rfl rfl dX5_goOn_68 rfl ?_
                  refine j_iload (pc' := 73) C dX5_goOn_71 rfl 5 rfl ?_
                  refine j_iload (pc' := 75) C dX5_goOn_73 rfl 7 rfl ?_
                  refine j_nast (pc' := 76) C [(aK, .inr (5, [.int (nI f2), .int wb2, .int wl2, .int wq2, .int ww, .ref aSl, .ref aN, .ref aW, .ref aTr, .int (nI g), .int wp, .int (-9)])), (aTr, .inl (cyI, 7, .inl (nA (uN tr2 dep c)))), (aW, .inr (6, [.ref aSh, .ref aN, .ref aO, .ref aFo, .ref aBa, .ref aRc, .int (bI gr)])), (aSh, .inl (cyI, 9, .inl (nA sh))), (aFo, .inl (cyZ, 9, .inl (bA fo))), (aBa, .inl (cyZ, 9, .inl (bA ba))), (aN, .inr (1, [.int (nI (t 0)), .int (nI (t 1)), .int (nI (t 2)), .ref aKd, .ref aFi, .ref aSe, .ref aSb, .ref aLd])), (aFi, .inl (cyI, 9, .inl (nA fi))), (aSe, .inl (cyI, 9, .inl (nA se)))] 1 rfl (by omega) (by decide) dX5_goOn_75 rfl rfl ?_
                  refine j_aload_n (pc' := 77) C dX5_goOn_76 rfl 1 rfl ?_
                  refine j_iload (pc' := 79) C dX5_goOn_77 rfl 0 rfl ?_
                  refine j_iload_n (pc' := 80) C dX5_goOn_79 rfl 3 rfl ?_
                  refine j_iconst (v := (nI 1)) (pc' := 81) C dX5_goOn_80 rfl (by decide +kernel) ?_
                  refine j_iload (pc' := 83) C dX5_goOn_81 rfl 0 rfl ?_
                  refine j_ishl (v := (nI (2 ^ v))) (pc' := 84) C dX5_goOn_83 rfl (sh_1 (by omega)) ?_
                  refine j_ior (v := (nI (vs ||| (2 ^ v)))) (pc' := 85) C dX5_goOn_84 rfl (fa_or vs (2 ^ v)) ?_
                  refine j_iload_n (pc' := 86) C dX5_goOn_85 rfl 4 rfl ?_
                  refine j_iconst (v := (nI 1)) (pc' := 87) C dX5_goOn_86 rfl (by decide +kernel) ?_
                  refine j_iload (pc' := 89) C dX5_goOn_87 rfl 7 rfl ?_
                  refine j_ishl (v := (nI (2 ^ c))) (pc' := 90) C dX5_goOn_89 rfl (sh_1 (by omega)) ?_
                  refine j_ior (v := (nI (cbx ||| (2 ^ c)))) (pc' := 91) C dX5_goOn_90 rfl (fa_or cbx (2 ^ c)) ?_
                  refine j_iload (pc' := 93) C dX5_goOn_91 rfl 5 rfl ?_
                  refine j_iconst (v := (nI 1)) (pc' := 94) C dX5_goOn_93 rfl (by decide +kernel) ?_
                  refine j_iadd (v := (nI (dep + 1))) (pc' := 95) C dX5_goOn_94 rfl (nI_add dep 1) ?_
                  refine j_iload (pc' := 97) C dX5_goOn_95 rfl 6 rfl ?_
                  refine j_aload_n (pc' := 98) C dX5_goOn_97 rfl 1 rfl ?_
                  refine j_get (v := .ref aW) (pc' := 101) C KX5 0 7 rfl (by decide) fl_X5_22 rfl rfl dX5_goOn_98 rfl ?_
                  refine j_get (v := .ref aSh) (pc' := 104) C KX6 2 0 rfl (by decide) fl_X5_65 rfl rfl dX5_goOn_101 rfl ?_
                  refine j_iload (pc' := 106) C dX5_goOn_104 rfl 7 rfl ?_
                  refine j_nald (pc' := 107) C 3 rfl (by omega) (by decide) dX5_goOn_106 rfl ?_
                  refine j_iand (v := (nI (q &&& (sh c)))) (pc' := 108) C dX5_goOn_107 rfl (fa_and q (sh c)) ?_
                  refine j_cVv (As := [.int (nI v), .int (nI (vs ||| (2 ^ v))), .int (nI (cbx ||| (2 ^ c))), .int (nI (dep + 1)), .int (nI (q &&& (sh c)))]) (wr := []) (pc' := 111) C (ih (aK := aK) (wb := wb2) (wl := wl2) (wq := wq2) (ww := ww) (aSl := aSl) (aN := aN) (aW := aW) (aTr := aTr) (wp := wp) (tr := uN tr2 dep c) (aSh := aSh) (aO := aO) (aFo := aFo) (aBa := aBa) (aRc := aRc) (gr := gr) (sh := sh) (fo := fo) (ba := ba) (t := t) (aKd := aKd) (aFi := aFi) (aSe := aSe) (aSb := aSb) (aLd := aLd) (fi := fi) (se := se) (s := s) (f := f2) (g := g) (a := v) (vs := vs ||| (2 ^ v)) (cbx := cbx ||| (2 ^ c)) (dep := dep + 1) (q := q &&& (sh c)) (pl0 := (pl0 ++ [c])) (wh := (uN wh (dep + 1) v)) (hT := by first | assumption | omega) (hfi := by first | assumption | omega) (hse := by first | assumption | omega) (hL := by first | assumption | omega) (hg := by first | assumption | omega) (hdp := by omega) (hVW := VW_push hVW htv c64b) (ha := uN_s.symm) (hvs := by rw [hvs]; exact vsN_push wh dep v) (hcb := by rw [hcb, bitL_a]) (hq := by rw [hq]; exact shP_a hL1.1 (fun st9 hst9 => hL1.2.1 st9 hst9)) (hpl := by rw [List.length_append, hpl]; rfl)) Y_X5_goOn (ml_X5_48) [0, 1, 2, 3, 4, 5, 6, 7, 8] [] rfl rfl rfl rfl (by decide) rfl rfl rfl dX5_goOn_108 rfl rfl rfl (Nat.le_of_ble_eq_true rfl) ⟨by simp only [rmk]; omega, by simp only [rmk]; omega⟩ ⟨Nat.le_of_ble_eq_true rfl, Nat.le_of_ble_eq_true rfl⟩ ⟨rfl, rfl⟩ (fun w1 hQ => ?_)
                  obtain ⟨wb1_2, wl1_2, wq1_2, tr1_2, rfl, hF108⟩ := hQ
                  refine j_iinc (v := (nI (c + 1))) (pc' := 114) C [(6, .int (nI (c + 1))), (7, .int (nI v)), (0, .ref aK), (1, .int (nI a)), (2, .int (nI vs)), (3, .int (nI cbx)), (4, .int (nI dep)), (5, .int (nI q))] dX5_goOn_111 rfl 7 rfl (inc_n c 1) (by decide) rfl ?_
                  refine j_goto C 29 dX5_goOn_114 (by decide) ?_
                  refine j_lsub [(0, .ref aK), (1, .int (nI a)), (2, .int (nI vs)), (3, .int (nI cbx)), (4, .int (nI dep)), (5, .int (nI q)), (6, .int (nI (c + 1)))] [2, 3, 4, 5, 6, 7, 0] rfl ?_
                  exact ih29 (c + 1) (f2 + (pF t s g fu (vs ||| (2 ^ v)) v).length) wb1_2 wl1_2 wq1_2 tr1_2 (⟨by omega, by rw [← hlen, hcl, List.length_append, List.length_map]; omega, by rw [← hsel, hcl, List.map_append, selP_app, List.length_map, List.length_map, hF108, List.map_map]; congr 2; congr 1; funext p9; simp⟩) (by omega)
        · exact ⟨Nat.zero_le _, rfl, rfl⟩
      · exact absurd c22 (by omega)
    · refine j_aload_n (pc' := 9) C dX5_goOn_8 rfl 0 rfl ?_
      refine j_iload_n (pc' := 10) C dX5_goOn_9 rfl 3 rfl ?_
      refine j_iload (pc' := 12) C dX5_goOn_10 rfl 4 rfl ?_
      refine j_iload (pc' := 14) C dX5_goOn_12 rfl 5 rfl ?_
      refine j_cVv (As := [.int (nI cbx), .int (nI dep), .int (nI q)]) (wr := [(aTr, .inl (cyI, 7, .inl (nA tr))), (aW, .inr (6, [.ref aSh, .ref aN, .ref aO, .ref aFo, .ref aBa, .ref aRc, .int (bI gr)])), (aSh, .inl (cyI, 9, .inl (nA sh))), (aFo, .inl (cyZ, 9, .inl (bA fo))), (aBa, .inl (cyZ, 9, .inl (bA ba))), (aN, .inr (1, [.int (nI (t 0)), .int (nI (t 1)), .int (nI (t 2)), .ref aKd, .ref aFi, .ref aSe, .ref aSb, .ref aLd])), (aFi, .inl (cyI, 9, .inl (nA fi))), (aSe, .inl (cyI, 9, .inl (nA se)))]) (pc' := 17) C (c_X5_arrive_P (aK := aK) (wb := wb) (wl := wl) (wq := wq) (ww := ww) (aSl := aSl) (aN := aN) (aW := aW) (aTr := aTr) (wg := (nI g)) (wp := wp) (f := f) (b := cbx) (n := dep) (q := q) ) Y_X5_arrive (ml_X5_52) [0] [1, 2, 3, 4, 5, 6, 7, 8] rfl rfl rfl rfl (by decide) rfl rfl rfl dX5_goOn_14 rfl rfl rfl (Nat.le_of_ble_eq_true rfl) ⟨by simp only [rmk]; omega, by simp only [rmk]; omega⟩ ⟨Nat.le_of_ble_eq_true rfl, Nat.le_of_ble_eq_true rfl⟩ ⟨rfl, rfl⟩ (fun w1 hQ => ?_)
      obtain ⟨wb1_3, wl1_3, wq1_3, rfl, hF14⟩ := hQ
      refine j_perm [(aK, .inr (5, [.int (nI (f + 1)), .int wb1_3, .int wl1_3, .int wq1_3, .int ww, .ref aSl, .ref aN, .ref aW, .ref aTr, .int (nI g), .int wp, .int (-9)])), (aTr, .inl (cyI, 7, .inl (nA tr))), (aW, .inr (6, [.ref aSh, .ref aN, .ref aO, .ref aFo, .ref aBa, .ref aRc, .int (bI gr)])), (aSh, .inl (cyI, 9, .inl (nA sh))), (aFo, .inl (cyZ, 9, .inl (bA fo))), (aBa, .inl (cyZ, 9, .inl (bA ba))), (aN, .inr (1, [.int (nI (t 0)), .int (nI (t 1)), .int (nI (t 2)), .ref aKd, .ref aFi, .ref aSe, .ref aSb, .ref aLd])), (aFi, .inl (cyI, 9, .inl (nA fi))), (aSe, .inl (cyI, 9, .inl (nA se)))] [8, 0, 1, 2, 3, 4, 5, 6, 7] rfl rfl (by decide) ?_
      have hLe : pF t s g (fu + 1) vs a = [[]] := by rw [pF_s, if_pos c5]
      exact j_vret C hr hk hA dX5_goOn_17 (⟨_, _, _, _, by rw [hLe]; rfl, by rw [hLe, hF14, hcb, ← hpl, hq]; simp only [List.map_cons, List.map_nil, List.append_nil, selP]⟩)

set_option maxHeartbeats 4000000 in
set_option maxRecDepth 100000 in
theorem c_X5_goOn_S {lch : Launch} {dG : va_G} {cyI cyZ cyO : ClassId} : ∀ (fu : Nat) (aK : Nat) (wb : Int32) (wl : Int32) (wq : Int32) (aSl : Nat) (aN : Nat) (aW : Nat) (aTr : Nat) (tr : Nat → Nat) (aSh : Nat) (aO : Nat) (aFo : Nat) (aBa : Nat) (aRc : Nat) (gr : Bool) (sh : Nat → Nat) (fo : Nat → Bool) (ba : Nat → Bool) (t : Nat → Nat) (aKd : Nat) (aFi : Nat) (aSe : Nat) (aSb : Nat) (aLd : Nat) (fi : Nat → Nat) (se : Nat → Nat) (stl : Nat → Nat) (s : Nat → Nat) (f : Nat) (g : Nat) (a : Nat) (vs : Nat) (cbx : Nat) (dep : Nat) (q : Nat) (pl0 : List Nat) (wh : Nat → Nat) (st : Nat) (fw : Nat) (res : Option (List Nat)) (hT : WT t) (hfi : ∀ c, c < t 1 → fi c = t (12 + c)) (hse : ∀ c, c < t 1 → se c = t (21 + c)) (hL : LDn t s sh fo ba (t 1)) (hg : g < 7) (hdp : dep + fu = 7) (hVW : VW t wh dep) (ha : a = wh dep) (hvs : vs = vsN wh (dep + 1)) (hcb : cbx = bitL pl0) (hq : q = shP t s pl0) (hpl : pl0.length = dep) (hst : st < 16) (hff : f + (pF t s g fu vs a).length < 2147483648) (hRC : RC9 res fw stl) (htr : ∀ i, i < dep → pl0[i]? = some (tr i)) (hg0 : 0 < g) (hw0 : wh 0 = 0), Kv lch yX5_goOn cX5_goOn 8 (rmk (3 + fu)) dG (cyI, cyZ, cyO) [.ref aK, .int (nI a), .int (nI vs), .int (nI cbx), .int (nI dep), .int (nI q)] [(aK, .inr (5, [.int (nI f), .int wb, .int wl, .int wq, .int (nI fw), .ref aSl, .ref aN, .ref aW, .ref aTr, .int (nI g), .int (-9), .int (nI st)])), (aTr, .inl (cyI, 7, .inl (nA tr))), (aW, .inr (6, [.ref aSh, .ref aN, .ref aO, .ref aFo, .ref aBa, .ref aRc, .int (bI gr)])), (aSh, .inl (cyI, 9, .inl (nA sh))), (aFo, .inl (cyZ, 9, .inl (bA fo))), (aBa, .inl (cyZ, 9, .inl (bA ba))), (aN, .inr (1, [.int (nI (t 0)), .int (nI (t 1)), .int (nI (t 2)), .ref aKd, .ref aFi, .ref aSe, .ref aSb, .ref aLd])), (aFi, .inl (cyI, 9, .inl (nA fi))), (aSe, .inl (cyI, 9, .inl (nA se))), (aSl, .inl (cyI, 7, .inl (nA stl)))] (fun w1 => ∃ (fw1 : Nat), ∃ (stl1 : Nat → Nat), ∃ (tr1 : Nat → Nat), w1 = [(aK, .inr (5, [.int (nI (f + (pF t s g fu vs a).length)), .int wb, .int wl, .int wq, .int (nI fw1), .ref aSl, .ref aN, .ref aW, .ref aTr, .int (nI g), .int (-9), .int (nI st)])), (aTr, .inl (cyI, 7, .inl (nA tr1))), (aW, .inr (6, [.ref aSh, .ref aN, .ref aO, .ref aFo, .ref aBa, .ref aRc, .int (bI gr)])), (aSh, .inl (cyI, 9, .inl (nA sh))), (aFo, .inl (cyZ, 9, .inl (bA fo))), (aBa, .inl (cyZ, 9, .inl (bA ba))), (aN, .inr (1, [.int (nI (t 0)), .int (nI (t 1)), .int (nI (t 2)), .ref aKd, .ref aFi, .ref aSe, .ref aSb, .ref aLd])), (aFi, .inl (cyI, 9, .inl (nA fi))), (aSe, .inl (cyI, 9, .inl (nA se))), (aSl, .inl (cyI, 7, .inl (nA stl1)))] ∧ RC9 (((pF t s g fu vs a).map (fun p => pl0 ++ p)).foldl (stp1 t s st) res) fw1 stl1 ∧ ∀ i, i < dep → tr1 i = tr i) := by
  intro fu
  induction fu with
  | zero =>
    intro aK wb wl wq aSl aN aW aTr tr aSh aO aFo aBa aRc gr sh fo ba t aKd aFi aSe aSb aLd fi se stl s f g a vs cbx dep q pl0 wh st fw res hT hfi hse hL hg hdp hVW ha hvs hcb hq hpl hst hff hRC htr hg0 hw0
    exact absurd (VW_6 hT hVW) (by omega)
  | succ fu ih =>
    intro aK wb wl wq aSl aN aW aTr tr aSh aO aFo aBa aRc gr sh fo ba t aKd aFi aSe aSb aLd fi se stl s f g a vs cbx dep q pl0 wh st fw res hT hfi hse hL hg hdp hVW ha hvs hcb hq hpl hst hff hRC htr hg0 hw0
    have h1 := hT.n
    have h6 := VW_6 hT hVW
    have ha7 := hVW.1 dep (Nat.le_refl _)
    have hv7 : vs < 2147483648 := by rw [hvs]; exact Nat.lt_trans (vsN_lt (fun i hi => by have := hVW.1 i (by omega); omega)) (by decide)
    have hfw7 := RC9_fw hRC
    refine Kv.of (own := RX5) rfl (by decide) (Nat.le_of_ble_eq_true rfl) (fun p0 e0 s0 m0 ar0 be0 me0 cd0 A0 C hr hk hnm hA => ?_)
    refine j_lsub [(0, .ref aK), (1, .int (nI a)), (2, .int (nI vs)), (3, .int (nI cbx)), (4, .int (nI dep)), (5, .int (nI q))] [0, 1, 2, 3, 4, 5] rfl ?_
    refine j_iload_n (pc' := 1) C dX5_goOn_0 rfl 1 rfl ?_
    refine j_aload_n (pc' := 2) C dX5_goOn_1 rfl 0 rfl ?_
    refine j_get (v := .int (nI g)) (pc' := 5) C KX5 0 9 rfl (by decide) fl_X5_31 rfl rfl dX5_goOn_2 rfl ?_
    refine j_nc_ne (pc' := 8) C 18 dX5_goOn_5 (by decide) rfl (by omega) (by omega) (fun c5 => ?_) (fun c5 => ?_)
    · refine j_iload (pc' := 20) C dX5_goOn_18 rfl 4 rfl ?_
      refine j_bipush (v := (nI 7)) (pc' := 22) C dX5_goOn_20 rfl (by decide +kernel) ?_
      refine j_nc_lt (pc' := 25) C 26 dX5_goOn_22 (by decide) rfl (by omega) (by omega) (fun c22 => ?_) (fun c22 => ?_)
      · refine j_iconst (v := (nI 0)) (pc' := 27) C dX5_goOn_26 rfl (by decide +kernel) ?_
        refine j_istore (pc' := 29) C [(6, .int (nI 0)), (0, .ref aK), (1, .int (nI a)), (2, .int (nI vs)), (3, .int (nI cbx)), (4, .int (nI dep)), (5, .int (nI q))] dX5_goOn_27 rfl (by decide) rfl ?_
        refine j_lsub [(0, .ref aK), (1, .int (nI a)), (2, .int (nI vs)), (3, .int (nI cbx)), (4, .int (nI dep)), (5, .int (nI q)), (6, .int (nI 0))] [1, 2, 3, 4, 5, 6, 0] rfl ?_
        refine j_loop5 (fun (c : Nat) (f2 : Nat) (fw2 : Nat) (stl2 : Nat → Nat) (tr2 : Nat → Nat) => [(aK, .inr (5, [.int (nI f2), .int wb, .int wl, .int wq, .int (nI fw2), .ref aSl, .ref aN, .ref aW, .ref aTr, .int (nI g), .int (-9), .int (nI st)])), (aTr, .inl (cyI, 7, .inl (nA tr2))), (aW, .inr (6, [.ref aSh, .ref aN, .ref aO, .ref aFo, .ref aBa, .ref aRc, .int (bI gr)])), (aSh, .inl (cyI, 9, .inl (nA sh))), (aFo, .inl (cyZ, 9, .inl (bA fo))), (aBa, .inl (cyZ, 9, .inl (bA ba))), (aN, .inr (1, [.int (nI (t 0)), .int (nI (t 1)), .int (nI (t 2)), .ref aKd, .ref aFi, .ref aSe, .ref aSb, .ref aLd])), (aFi, .inl (cyI, 9, .inl (nA fi))), (aSe, .inl (cyI, 9, .inl (nA se))), (aSl, .inl (cyI, 7, .inl (nA stl2)))]) (fun (c : Nat) (f2 : Nat) (fw2 : Nat) (stl2 : Nat → Nat) (tr2 : Nat → Nat) => [(0, .ref aK), (1, .int (nI a)), (2, .int (nI vs)), (3, .int (nI cbx)), (4, .int (nI dep)), (5, .int (nI q)), (6, .int (nI c))]) (fun (c : Nat) (f2 : Nat) (fw2 : Nat) (stl2 : Nat → Nat) (tr2 : Nat → Nat) => []) (fun (c : Nat) (f2 : Nat) (fw2 : Nat) (stl2 : Nat → Nat) (tr2 : Nat → Nat) => c ≤ t 1 ∧ f2 + (pR (pF t s g fu) t s vs a (t 1 - c)).length = f + (pR (pF t s g fu) t s vs a (t 1)).length ∧ (∃ res2, RC9 res2 fw2 stl2 ∧ ((pR (pF t s g fu) t s vs a (t 1 - c)).map (fun p => pl0 ++ p)).foldl (stp1 t s st) res2 = ((pR (pF t s g fu) t s vs a (t 1)).map (fun p => pl0 ++ p)).foldl (stp1 t s st) res) ∧ ∀ i, i < dep → tr2 i = tr i) (fun (c : Nat) (f2 : Nat) (fw2 : Nat) (stl2 : Nat → Nat) (tr2 : Nat → Nat) => t 1 - c) ?_ 0 f fw stl tr ?_
        · intro c f2 fw2 stl2 tr2 hI29 ih29
          obtain ⟨hc0, hlen, ⟨res2, hRC2, hsel⟩, htr2⟩ := hI29
          refine j_iload (pc' := 31) C dX5_goOn_29 rfl 6 rfl ?_
          refine j_aload_n (pc' := 32) C dX5_goOn_31 rfl 0 rfl ?_
          refine j_get (v := .ref aN) (pc' := 35) C KX5 0 6 rfl (by decide) fl_X5_18 rfl rfl dX5_goOn_32 rfl ?_
          refine j_get (v := .int (nI (t 1))) (pc' := 38) C KX1 6 1 rfl (by decide) fl_X5_56 rfl rfl dX5_goOn_35 rfl ?_
          refine j_nc_ge (pc' := 41) C 117 dX5_goOn_38 (by decide) rfl (by omega) (by omega) (fun c38 => ?_) (fun c38 => ?_)
          · have hLe : pF t s g (fu + 1) vs a = (pR (pF t s g fu) t s vs a (t 1)) := by rw [pF_s, if_neg c5]
            rw [show t 1 - c = 0 by omega, pR] at hlen hsel
            exact j_vret C hr hk hA dX5_goOn_117 (⟨_, _, _, by rw [hLe, ← hlen]; rfl, by rw [hLe, ← hsel]; exact hRC2, htr2⟩)
          · have hL1 := hL c c38
            refine j_aload_n (pc' := 42) C dX5_goOn_41 rfl 0 rfl ?_
            refine j_get (v := .ref aW) (pc' := 45) C KX5 0 7 rfl (by decide) fl_X5_22 rfl rfl dX5_goOn_42 rfl ?_
            refine j_iload (pc' := 47) C dX5_goOn_45 rfl 6 rfl ?_
            refine j_iload_n (pc' := 48) C dX5_goOn_47 rfl 1 rfl ?_
            refine j_cVi (As := [.int (nI c), .int (nI a)]) (wr := [(aK, .inr (5, [.int (nI f2), .int wb, .int wl, .int wq, .int (nI fw2), .ref aSl, .ref aN, .ref aW, .ref aTr, .int (nI g), .int (-9), .int (nI st)])), (aTr, .inl (cyI, 7, .inl (nA tr2))), (aSh, .inl (cyI, 9, .inl (nA sh))), (aSl, .inl (cyI, 7, .inl (nA stl2)))]) (pc' := 51) C (c_X6_nodeBehind (aW := aW) (aSh := aSh) (aN := aN) (aO := aO) (aFo := aFo) (aBa := aBa) (aRc := aRc) (gr := gr) (fo := fo) (ba := ba) (t := t) (aKd := aKd) (aFi := aFi) (aSe := aSe) (aSb := aSb) (aLd := aLd) (fi := fi) (se := se) (s := s) (c := c) (a := a) (hT := by first | assumption | omega) (hfi := by first | assumption | omega) (hse := by first | assumption | omega) (hc := c38) (hfo := (hL c c38).2.2.1) (hba := (hL c c38).2.2.2) (ha := by omega)) Y_X6_nodeBehind (ml_X5_59) [2, 4, 5, 6, 7, 8] [0, 1, 3, 9] rfl rfl rfl rfl (by decide) rfl rfl rfl dX5_goOn_48 rfl rfl rfl (Nat.le_of_ble_eq_true rfl) ⟨by simp only [rmk]; omega, by simp only [rmk]; omega⟩ ⟨Nat.le_of_ble_eq_true rfl, Nat.le_of_ble_eq_true rfl⟩ ⟨rfl, rfl⟩ (fun r1 w1 hQ => ?_)
            obtain ⟨rfl, hF48⟩ := hQ
            refine j_perm [(aK, .inr (5, [.int (nI f2), .int wb, .int wl, .int wq, .int (nI fw2), .ref aSl, .ref aN, .ref aW, .ref aTr, .int (nI g), .int (-9), .int (nI st)])), (aTr, .inl (cyI, 7, .inl (nA tr2))), (aW, .inr (6, [.ref aSh, .ref aN, .ref aO, .ref aFo, .ref aBa, .ref aRc, .int (bI gr)])), (aSh, .inl (cyI, 9, .inl (nA sh))), (aFo, .inl (cyZ, 9, .inl (bA fo))), (aBa, .inl (cyZ, 9, .inl (bA ba))), (aN, .inr (1, [.int (nI (t 0)), .int (nI (t 1)), .int (nI (t 2)), .ref aKd, .ref aFi, .ref aSe, .ref aSb, .ref aLd])), (aFi, .inl (cyI, 9, .inl (nA fi))), (aSe, .inl (cyI, 9, .inl (nA se))), (aSl, .inl (cyI, 7, .inl (nA stl2)))] [0, 1, 4, 2, 5, 6, 7, 8, 9, 3] rfl rfl (by decide) ?_
            rcases hF48 with ⟨htn, rfl⟩ | ⟨v, hts, rfl, htv⟩
            · refine j_istore (pc' := 53) C [(7, .int (-9)), (0, .ref aK), (1, .int (nI a)), (2, .int (nI vs)), (3, .int (nI cbx)), (4, .int (nI dep)), (5, .int (nI q)), (6, .int (nI c))] dX5_goOn_51 rfl (by decide) rfl ?_
              refine j_iload (pc' := 55) C dX5_goOn_53 rfl 0 rfl ?_
              refine j_if_lt (pc' := 58) C 111 dX5_goOn_55 (by decide) rfl (fun c55 => ?_) (fun c55 => ?_)
              · refine j_iinc (v := (nI (c + 1))) (pc' := 114) C [(6, .int (nI (c + 1))), (7, .int (-9)), (0, .ref aK), (1, .int (nI a)), (2, .int (nI vs)), (3, .int (nI cbx)), (4, .int (nI dep)), (5, .int (nI q))] dX5_goOn_111 rfl 7 rfl (inc_n c 1) (by decide) rfl ?_
                refine j_goto C 29 dX5_goOn_114 (by decide) ?_
                refine j_lsub [(0, .ref aK), (1, .int (nI a)), (2, .int (nI vs)), (3, .int (nI cbx)), (4, .int (nI dep)), (5, .int (nI q)), (6, .int (nI (c + 1)))] [2, 3, 4, 5, 6, 7, 0] rfl ?_
                exact ih29 (c + 1) f2 fw2 stl2 tr2 (⟨by omega, by rw [← hlen, pR_c c38 (nxB_no htn)], ⟨res2, hRC2, by rw [← hsel, pR_c c38 (nxB_no htn)]⟩, htr2⟩) (by omega)
              · exact absurd c55 (by decide +kernel)
            · refine j_istore (pc' := 53) C [(7, .int (nI v)), (0, .ref aK), (1, .int (nI a)), (2, .int (nI vs)), (3, .int (nI cbx)), (4, .int (nI dep)), (5, .int (nI q)), (6, .int (nI c))] dX5_goOn_51 rfl (by decide) rfl ?_
              refine j_iload (pc' := 55) C dX5_goOn_53 rfl 0 rfl ?_
              refine j_if_lt (pc' := 58) C 111 dX5_goOn_55 (by decide) rfl (fun c55 => ?_) (fun c55 => ?_)
              · exact absurd c55 (nI_pos (by omega))
              · refine j_iload_n (pc' := 59) C dX5_goOn_58 rfl 3 rfl ?_
                refine j_iload (pc' := 61) C dX5_goOn_59 rfl 0 rfl ?_
                refine j_ishr (v := (nI (vs >>> v))) (pc' := 62) C dX5_goOn_61 rfl (sh_r hv7 (by omega)) ?_
                refine j_iconst (v := (nI 1)) (pc' := 63) C dX5_goOn_62 rfl (by decide +kernel) ?_
                refine j_iand (v := (bI (Nat.testBit vs v))) (pc' := 64) C dX5_goOn_63 rfl (tb_bit _ _) ?_
                refine j_b_ne (pc' := 67) C 111 dX5_goOn_64 (by decide) rfl (fun c64 => ?_) (fun c64 => ?_)
                · refine j_iinc (v := (nI (c + 1))) (pc' := 114) C [(6, .int (nI (c + 1))), (7, .int (nI v)), (0, .ref aK), (1, .int (nI a)), (2, .int (nI vs)), (3, .int (nI cbx)), (4, .int (nI dep)), (5, .int (nI q))] dX5_goOn_111 rfl 7 rfl (inc_n c 1) (by decide) rfl ?_
                  refine j_goto C 29 dX5_goOn_114 (by decide) ?_
                  refine j_lsub [(0, .ref aK), (1, .int (nI a)), (2, .int (nI vs)), (3, .int (nI cbx)), (4, .int (nI dep)), (5, .int (nI q)), (6, .int (nI (c + 1)))] [2, 3, 4, 5, 6, 7, 0] rfl ?_
                  exact ih29 (c + 1) f2 fw2 stl2 tr2 (⟨by omega, by rw [← hlen, pR_c c38 (nxB_vs hts c64)], ⟨res2, hRC2, by rw [← hsel, pR_c c38 (nxB_vs hts c64)]⟩, htr2⟩) (by omega)
                · have c64b : (vsN wh (dep + 1)).testBit v = false := by rw [← hvs]; exact c64
                  have hnx : nxB t s vs a c = some v := nxB_ok hts c64
                  have hcl := pR_d (F := pF t s g fu) c38 hnx
                  refine j_aload_n (pc' := 68) C dX5_goOn_67 rfl 1 rfl ?_
                  refine j_get (v := .ref aTr) (pc' := 71) C KX5 0 8 rfl (by decide) fl_X5_15 rfl rfl dX5_goOn_68 rfl ?_
                  refine j_iload (pc' := 73) C dX5_goOn_71 rfl 5 rfl ?_
                  refine j_iload (pc' := 75) C dX5_goOn_73 rfl 7 rfl ?_
                  refine j_nast (pc' := 76) C [(aK, .inr (5, [.int (nI f2), .int wb, .int wl, .int wq, .int (nI fw2), .ref aSl, .ref aN, .ref aW, .ref aTr, .int (nI g), .int (-9), .int (nI st)])), (aTr, .inl (cyI, 7, .inl (nA (uN tr2 dep c)))), (aW, .inr (6, [.ref aSh, .ref aN, .ref aO, .ref aFo, .ref aBa, .ref aRc, .int (bI gr)])), (aSh, .inl (cyI, 9, .inl (nA sh))), (aFo, .inl (cyZ, 9, .inl (bA fo))), (aBa, .inl (cyZ, 9, .inl (bA ba))), (aN, .inr (1, [.int (nI (t 0)), .int (nI (t 1)), .int (nI (t 2)), .ref aKd, .ref aFi, .ref aSe, .ref aSb, .ref aLd])), (aFi, .inl (cyI, 9, .inl (nA fi))), (aSe, .inl (cyI, 9, .inl (nA se))), (aSl, .inl (cyI, 7, .inl (nA stl2)))] 1 rfl (by omega) (by decide) dX5_goOn_75 rfl rfl ?_
                  refine j_aload_n (pc' := 77) C dX5_goOn_76 rfl 1 rfl ?_
                  refine j_iload (pc' := 79) C dX5_goOn_77 rfl 0 rfl ?_
                  refine j_iload_n (pc' := 80) C dX5_goOn_79 rfl 3 rfl ?_
                  refine j_iconst (v := (nI 1)) (pc' := 81) C dX5_goOn_80 rfl (by decide +kernel) ?_
                  refine j_iload (pc' := 83) C dX5_goOn_81 rfl 0 rfl ?_
                  refine j_ishl (v := (nI (2 ^ v))) (pc' := 84) C dX5_goOn_83 rfl (sh_1 (by omega)) ?_
                  refine j_ior (v := (nI (vs ||| (2 ^ v)))) (pc' := 85) C dX5_goOn_84 rfl (fa_or vs (2 ^ v)) ?_
                  refine j_iload_n (pc' := 86) C dX5_goOn_85 rfl 4 rfl ?_
                  refine j_iconst (v := (nI 1)) (pc' := 87) C dX5_goOn_86 rfl (by decide +kernel) ?_
                  refine j_iload (pc' := 89) C dX5_goOn_87 rfl 7 rfl ?_
                  refine j_ishl (v := (nI (2 ^ c))) (pc' := 90) C dX5_goOn_89 rfl (sh_1 (by omega)) ?_
                  refine j_ior (v := (nI (cbx ||| (2 ^ c)))) (pc' := 91) C dX5_goOn_90 rfl (fa_or cbx (2 ^ c)) ?_
                  refine j_iload (pc' := 93) C dX5_goOn_91 rfl 5 rfl ?_
                  refine j_iconst (v := (nI 1)) (pc' := 94) C dX5_goOn_93 rfl (by decide +kernel) ?_
                  refine j_iadd (v := (nI (dep + 1))) (pc' := 95) C dX5_goOn_94 rfl (nI_add dep 1) ?_
                  refine j_iload (pc' := 97) C dX5_goOn_95 rfl 6 rfl ?_
                  refine j_aload_n (pc' := 98) C dX5_goOn_97 rfl 1 rfl ?_
                  refine j_get (v := .ref aW) (pc' := 101) C KX5 0 7 rfl (by decide) fl_X5_22 rfl rfl dX5_goOn_98 rfl ?_
                  refine j_get (v := .ref aSh) (pc' := 104) C KX6 2 0 rfl (by decide) fl_X5_65 rfl rfl dX5_goOn_101 rfl ?_
                  refine j_iload (pc' := 106) C dX5_goOn_104 rfl 7 rfl ?_
                  refine j_nald (pc' := 107) C 3 rfl (by omega) (by decide) dX5_goOn_106 rfl ?_
                  refine j_iand (v := (nI (q &&& (sh c)))) (pc' := 108) C dX5_goOn_107 rfl (fa_and q (sh c)) ?_
                  refine j_cVv (As := [.int (nI v), .int (nI (vs ||| (2 ^ v))), .int (nI (cbx ||| (2 ^ c))), .int (nI (dep + 1)), .int (nI (q &&& (sh c)))]) (wr := []) (pc' := 111) C (ih (aK := aK) (wb := wb) (wl := wl) (wq := wq) (aSl := aSl) (aN := aN) (aW := aW) (aTr := aTr) (tr := uN tr2 dep c) (aSh := aSh) (aO := aO) (aFo := aFo) (aBa := aBa) (aRc := aRc) (gr := gr) (sh := sh) (fo := fo) (ba := ba) (t := t) (aKd := aKd) (aFi := aFi) (aSe := aSe) (aSb := aSb) (aLd := aLd) (fi := fi) (se := se) (stl := stl2) (s := s) (f := f2) (g := g) (a := v) (vs := vs ||| (2 ^ v)) (cbx := cbx ||| (2 ^ c)) (dep := dep + 1) (q := q &&& (sh c)) (pl0 := (pl0 ++ [c])) (wh := (uN wh (dep + 1) v)) (st := st) (fw := fw2) (res := res2) (hT := by first | assumption | omega) (hfi := by first | assumption | omega) (hse := by first | assumption | omega) (hL := by first | assumption | omega) (hg := by first | assumption | omega) (hdp := by omega) (hVW := VW_push hVW htv c64b) (ha := uN_s.symm) (hvs := by rw [hvs]; exact vsN_push wh dep v) (hcb := by rw [hcb, bitL_a]) (hq := by rw [hq]; exact shP_a hL1.1 (fun st9 hst9 => hL1.2.1 st9 hst9)) (hpl := by rw [List.length_append, hpl]; rfl) (hst := hst) (hff := by rw [hcl, List.length_append, List.length_map] at hlen; rw [pF_s, if_neg c5] at hff; omega) (hRC := hRC2) (htr := fun i hi => if q9 : i = dep then (by rw [q9, uN_s, List.getElem?_append_right (by omega), hpl, Nat.sub_self]; rfl) else (by rw [uN_n q9, List.getElem?_append_left (by omega), htr i (by omega), htr2 i (by omega)])) (hg0 := hg0) (hw0 := by rw [uN_n (by omega)]; exact hw0)) Y_X5_goOn (ml_X5_48) [0, 1, 2, 3, 4, 5, 6, 7, 8, 9] [] rfl rfl rfl rfl (by decide) rfl rfl rfl dX5_goOn_108 rfl rfl rfl (Nat.le_of_ble_eq_true rfl) ⟨by simp only [rmk]; omega, by simp only [rmk]; omega⟩ ⟨Nat.le_of_ble_eq_true rfl, Nat.le_of_ble_eq_true rfl⟩ ⟨rfl, rfl⟩ (fun w1 hQ => ?_)
                  obtain ⟨fw1_2, stl1_2, tr1_2, rfl, hF108⟩ := hQ
                  refine j_iinc (v := (nI (c + 1))) (pc' := 114) C [(6, .int (nI (c + 1))), (7, .int (nI v)), (0, .ref aK), (1, .int (nI a)), (2, .int (nI vs)), (3, .int (nI cbx)), (4, .int (nI dep)), (5, .int (nI q))] dX5_goOn_111 rfl 7 rfl (inc_n c 1) (by decide) rfl ?_
                  refine j_goto C 29 dX5_goOn_114 (by decide) ?_
                  refine j_lsub [(0, .ref aK), (1, .int (nI a)), (2, .int (nI vs)), (3, .int (nI cbx)), (4, .int (nI dep)), (5, .int (nI q)), (6, .int (nI (c + 1)))] [2, 3, 4, 5, 6, 7, 0] rfl ?_
                  exact ih29 (c + 1) (f2 + (pF t s g fu (vs ||| (2 ^ v)) v).length) fw1_2 stl1_2 tr1_2 (⟨by omega, by rw [← hlen, hcl, List.length_append, List.length_map]; omega, ⟨_, hF108.1, by rw [← hsel, hcl, List.map_append, List.foldl_append, List.map_map]; congr 2; congr 1; funext p9; simp⟩, fun i hi => by rw [hF108.2 i (by omega), uN_n (by omega)]; exact htr2 i hi⟩) (by omega)
        · exact ⟨Nat.zero_le _, rfl, ⟨res, hRC, rfl⟩, fun _ _ => rfl⟩
      · exact absurd c22 (by omega)
    · refine j_aload_n (pc' := 9) C dX5_goOn_8 rfl 0 rfl ?_
      refine j_iload_n (pc' := 10) C dX5_goOn_9 rfl 3 rfl ?_
      refine j_iload (pc' := 12) C dX5_goOn_10 rfl 4 rfl ?_
      refine j_iload (pc' := 14) C dX5_goOn_12 rfl 5 rfl ?_
      refine j_cVv (As := [.int (nI cbx), .int (nI dep), .int (nI q)]) (wr := [(aW, .inr (6, [.ref aSh, .ref aN, .ref aO, .ref aFo, .ref aBa, .ref aRc, .int (bI gr)])), (aSh, .inl (cyI, 9, .inl (nA sh))), (aFo, .inl (cyZ, 9, .inl (bA fo))), (aBa, .inl (cyZ, 9, .inl (bA ba))), (aN, .inr (1, [.int (nI (t 0)), .int (nI (t 1)), .int (nI (t 2)), .ref aKd, .ref aFi, .ref aSe, .ref aSb, .ref aLd])), (aFi, .inl (cyI, 9, .inl (nA fi))), (aSe, .inl (cyI, 9, .inl (nA se)))]) (pc' := 17) C (c_X5_arrive_S (aK := aK) (wb := wb) (wl := wl) (wq := wq) (aSl := aSl) (aN := aN) (aW := aW) (aTr := aTr) (wg := (nI g)) (tr := tr) (stl := stl) (f := f) (st := st) (fw := fw) (b := cbx) (n := dep) (q := q) (hf := by omega) (hst := by first | assumption | omega) (hn := by omega) (hq := by rw [hq]; exact shP_lt _ _ _) (hfw := hfw7)) Y_X5_arrive (ml_X5_52) [0, 1, 9] [2, 3, 4, 5, 6, 7, 8] rfl rfl rfl rfl (by decide) rfl rfl rfl dX5_goOn_14 rfl rfl rfl (Nat.le_of_ble_eq_true rfl) ⟨by simp only [rmk]; omega, by simp only [rmk]; omega⟩ ⟨Nat.le_of_ble_eq_true rfl, Nat.le_of_ble_eq_true rfl⟩ ⟨rfl, rfl⟩ (fun w1 hQ => ?_)
      obtain ⟨fw1_3, stl1_3, rfl, hF14⟩ := hQ
      refine j_perm [(aK, .inr (5, [.int (nI (f + 1)), .int wb, .int wl, .int wq, .int (nI fw1_3), .ref aSl, .ref aN, .ref aW, .ref aTr, .int (nI g), .int (-9), .int (nI st)])), (aTr, .inl (cyI, 7, .inl (nA tr))), (aW, .inr (6, [.ref aSh, .ref aN, .ref aO, .ref aFo, .ref aBa, .ref aRc, .int (bI gr)])), (aSh, .inl (cyI, 9, .inl (nA sh))), (aFo, .inl (cyZ, 9, .inl (bA fo))), (aBa, .inl (cyZ, 9, .inl (bA ba))), (aN, .inr (1, [.int (nI (t 0)), .int (nI (t 1)), .int (nI (t 2)), .ref aKd, .ref aFi, .ref aSe, .ref aSb, .ref aLd])), (aFi, .inl (cyI, 9, .inl (nA fi))), (aSe, .inl (cyI, 9, .inl (nA se))), (aSl, .inl (cyI, 7, .inl (nA stl1_3)))] [7, 8, 0, 1, 2, 3, 4, 5, 6, 9] rfl rfl (by decide) ?_
      have hLe : pF t s g (fu + 1) vs a = [[]] := by rw [pF_s, if_pos c5]
      have hd1 : 1 ≤ dep := by rcases Nat.eq_zero_or_pos dep with q9 | q9; (rw [q9, hw0] at ha; omega); exact q9
      exact j_vret C hr hk hA dX5_goOn_17 (⟨_, _, _, by rw [hLe]; rfl, by rw [hLe]; simp only [List.map_cons, List.map_nil, List.append_nil, List.foldl_cons, List.foldl_nil]; rw [hq, ← hpl] at hF14; exact RC9_arr hRC (by omega) (by omega) (fun i hi => htr i (by omega)) hF14, fun i _ => rfl⟩)

set_option maxHeartbeats 4000000 in
set_option maxRecDepth 100000 in
theorem c_X5_run_P {lch : Launch} {dG : va_G} {cyI cyZ cyO : ClassId} (aK : Nat) (wf : Int32) (wb : Int32) (wl : Int32) (wq : Int32) (ww : Int32) (aSl : Nat) (aN : Nat) (aW : Nat) (aTr : Nat) (wg : Int32) (wp : Int32) (wz : Int32) (tr : Nat → Nat) (aSh : Nat) (aO : Nat) (aFo : Nat) (aBa : Nat) (aRc : Nat) (gr : Bool) (sh : Nat → Nat) (fo : Nat → Bool) (ba : Nat → Bool) (t : Nat → Nat) (aKd : Nat) (aFi : Nat) (aSe : Nat) (aSb : Nat) (aLd : Nat) (fi : Nat → Nat) (se : Nat → Nat) (ld : Nat → Nat) (s : Nat → Nat) (l : Nat) (wp2 : Int32) (hT : WT t) (hfi : ∀ c, c < t 1 → fi c = t (12 + c)) (hse : ∀ c, c < t 1 → se c = t (21 + c)) (hld : ∀ l, l < t 2 → ld l = t (39 + l)) (hL : LDn t s sh fo ba (t 1)) (hl : l < t 2) : Kv lch yX5_run cX5_run 4 (rmk 11) dG (cyI, cyZ, cyO) [.ref aK, .int (nI l), .int wp2, .int (-9)] [(aK, .inr (5, [.int wf, .int wb, .int wl, .int wq, .int ww, .ref aSl, .ref aN, .ref aW, .ref aTr, .int wg, .int wp, .int wz])), (aTr, .inl (cyI, 7, .inl (nA tr))), (aW, .inr (6, [.ref aSh, .ref aN, .ref aO, .ref aFo, .ref aBa, .ref aRc, .int (bI gr)])), (aSh, .inl (cyI, 9, .inl (nA sh))), (aFo, .inl (cyZ, 9, .inl (bA fo))), (aBa, .inl (cyZ, 9, .inl (bA ba))), (aN, .inr (1, [.int (nI (t 0)), .int (nI (t 1)), .int (nI (t 2)), .ref aKd, .ref aFi, .ref aSe, .ref aSb, .ref aLd])), (aFi, .inl (cyI, 9, .inl (nA fi))), (aSe, .inl (cyI, 9, .inl (nA se))), (aLd, .inl (cyI, 3, .inl (nA ld)))] (fun w1 => ∃ (wb1 : Int32), ∃ (wl1 : Int32), ∃ (wq1 : Int32), ∃ (tr1 : Nat → Nat), w1 = [(aK, .inr (5, [.int (nI ((pAll t s l).length)), .int wb1, .int wl1, .int wq1, .int (nI 0), .ref aSl, .ref aN, .ref aW, .ref aTr, .int (nI (t (39 + l))), .int wp2, .int (-9)])), (aTr, .inl (cyI, 7, .inl (nA tr1))), (aW, .inr (6, [.ref aSh, .ref aN, .ref aO, .ref aFo, .ref aBa, .ref aRc, .int (bI gr)])), (aSh, .inl (cyI, 9, .inl (nA sh))), (aFo, .inl (cyZ, 9, .inl (bA fo))), (aBa, .inl (cyZ, 9, .inl (bA ba))), (aN, .inr (1, [.int (nI (t 0)), .int (nI (t 1)), .int (nI (t 2)), .ref aKd, .ref aFi, .ref aSe, .ref aSb, .ref aLd])), (aFi, .inl (cyI, 9, .inl (nA fi))), (aSe, .inl (cyI, 9, .inl (nA se))), (aLd, .inl (cyI, 3, .inl (nA ld)))] ∧ (wb1, wl1, wq1) = selP t s wp2 0 (pAll t s l) (wb, wl, wq)) := by
  have h1 := hT.n
  have h2 := hT.l hl
  refine Kv.of (own := RX5) rfl (by decide) (Nat.le_of_ble_eq_true rfl) (fun p0 e0 s0 m0 ar0 be0 me0 cd0 A0 C hr hk hnm hA => ?_)
  refine j_lsub [(0, .ref aK), (1, .int (nI l)), (2, .int wp2), (3, .int (-9))] [0, 1, 2, 3] rfl ?_
  refine j_aload_n (pc' := 1) C dX5_run_0 rfl 0 rfl ?_
  refine j_aload_n (pc' := 2) C dX5_run_1 rfl 0 rfl ?_
  refine j_get (v := .ref aN) (pc' := 5) C KX5 0 6 rfl (by decide) fl_X5_18 rfl rfl dX5_run_2 rfl ?_
  refine j_get (v := .ref aLd) (pc' := 8) C KX1 6 7 rfl (by decide) fl_X5_26 rfl rfl dX5_run_5 rfl ?_
  refine j_iload_n (pc' := 9) C dX5_run_8 rfl 1 rfl ?_
  refine j_nald (pc' := 10) C 9 rfl (by omega) (by decide) dX5_run_9 rfl ?_
  refine j_top (nI (t (39 + l))) (by rw [hld l hl]) ?_
  refine j_put (pc' := 13) C [(aK, .inr (5, [.int wf, .int wb, .int wl, .int wq, .int ww, .ref aSl, .ref aN, .ref aW, .ref aTr, .int (nI (t (39 + l))), .int wp, .int wz])), (aTr, .inl (cyI, 7, .inl (nA tr))), (aW, .inr (6, [.ref aSh, .ref aN, .ref aO, .ref aFo, .ref aBa, .ref aRc, .int (bI gr)])), (aSh, .inl (cyI, 9, .inl (nA sh))), (aFo, .inl (cyZ, 9, .inl (bA fo))), (aBa, .inl (cyZ, 9, .inl (bA ba))), (aN, .inr (1, [.int (nI (t 0)), .int (nI (t 1)), .int (nI (t 2)), .ref aKd, .ref aFi, .ref aSe, .ref aSb, .ref aLd])), (aFi, .inl (cyI, 9, .inl (nA fi))), (aSe, .inl (cyI, 9, .inl (nA se))), (aLd, .inl (cyI, 3, .inl (nA ld)))] KX5 0 9 rfl (by decide) fl_X5_31 rfl rfl rfl rfl (Nat.le_of_ble_eq_true rfl) dX5_run_10 rfl rfl ?_
  refine j_aload_n (pc' := 14) C dX5_run_13 rfl 0 rfl ?_
  refine j_iload_n (pc' := 15) C dX5_run_14 rfl 2 rfl ?_
  refine j_put (pc' := 18) C [(aK, .inr (5, [.int wf, .int wb, .int wl, .int wq, .int ww, .ref aSl, .ref aN, .ref aW, .ref aTr, .int (nI (t (39 + l))), .int wp2, .int wz])), (aTr, .inl (cyI, 7, .inl (nA tr))), (aW, .inr (6, [.ref aSh, .ref aN, .ref aO, .ref aFo, .ref aBa, .ref aRc, .int (bI gr)])), (aSh, .inl (cyI, 9, .inl (nA sh))), (aFo, .inl (cyZ, 9, .inl (bA fo))), (aBa, .inl (cyZ, 9, .inl (bA ba))), (aN, .inr (1, [.int (nI (t 0)), .int (nI (t 1)), .int (nI (t 2)), .ref aKd, .ref aFi, .ref aSe, .ref aSb, .ref aLd])), (aFi, .inl (cyI, 9, .inl (nA fi))), (aSe, .inl (cyI, 9, .inl (nA se))), (aLd, .inl (cyI, 3, .inl (nA ld)))] KX5 0 10 rfl (by decide) fl_X5_35 rfl rfl rfl rfl (Nat.le_of_ble_eq_true rfl) dX5_run_15 rfl rfl ?_
  refine j_aload_n (pc' := 19) C dX5_run_18 rfl 0 rfl ?_
  refine j_iload_n (pc' := 20) C dX5_run_19 rfl 3 rfl ?_
  refine j_put (pc' := 23) C [(aK, .inr (5, [.int wf, .int wb, .int wl, .int wq, .int ww, .ref aSl, .ref aN, .ref aW, .ref aTr, .int (nI (t (39 + l))), .int wp2, .int (-9)])), (aTr, .inl (cyI, 7, .inl (nA tr))), (aW, .inr (6, [.ref aSh, .ref aN, .ref aO, .ref aFo, .ref aBa, .ref aRc, .int (bI gr)])), (aSh, .inl (cyI, 9, .inl (nA sh))), (aFo, .inl (cyZ, 9, .inl (bA fo))), (aBa, .inl (cyZ, 9, .inl (bA ba))), (aN, .inr (1, [.int (nI (t 0)), .int (nI (t 1)), .int (nI (t 2)), .ref aKd, .ref aFi, .ref aSe, .ref aSb, .ref aLd])), (aFi, .inl (cyI, 9, .inl (nA fi))), (aSe, .inl (cyI, 9, .inl (nA se))), (aLd, .inl (cyI, 3, .inl (nA ld)))] KX5 0 11 rfl (by decide) fl_X5_38 rfl rfl rfl rfl (Nat.le_of_ble_eq_true rfl) dX5_run_20 rfl rfl ?_
  refine j_aload_n (pc' := 24) C dX5_run_23 rfl 0 rfl ?_
  refine j_iconst (v := (nI 0)) (pc' := 25) C dX5_run_24 rfl (by decide +kernel) ?_
  refine j_put (pc' := 28) C [(aK, .inr (5, [.int (nI 0), .int wb, .int wl, .int wq, .int ww, .ref aSl, .ref aN, .ref aW, .ref aTr, .int (nI (t (39 + l))), .int wp2, .int (-9)])), (aTr, .inl (cyI, 7, .inl (nA tr))), (aW, .inr (6, [.ref aSh, .ref aN, .ref aO, .ref aFo, .ref aBa, .ref aRc, .int (bI gr)])), (aSh, .inl (cyI, 9, .inl (nA sh))), (aFo, .inl (cyZ, 9, .inl (bA fo))), (aBa, .inl (cyZ, 9, .inl (bA ba))), (aN, .inr (1, [.int (nI (t 0)), .int (nI (t 1)), .int (nI (t 2)), .ref aKd, .ref aFi, .ref aSe, .ref aSb, .ref aLd])), (aFi, .inl (cyI, 9, .inl (nA fi))), (aSe, .inl (cyI, 9, .inl (nA se))), (aLd, .inl (cyI, 3, .inl (nA ld)))] KX5 0 0 rfl (by decide) fl_X5_41 rfl rfl rfl rfl (Nat.le_of_ble_eq_true rfl) dX5_run_25 rfl rfl ?_
  refine j_aload_n (pc' := 29) C dX5_run_28 rfl 0 rfl ?_
  refine j_iconst (v := (nI 0)) (pc' := 30) C dX5_run_29 rfl (by decide +kernel) ?_
  refine j_put (pc' := 33) C [(aK, .inr (5, [.int (nI 0), .int wb, .int wl, .int wq, .int (nI 0), .ref aSl, .ref aN, .ref aW, .ref aTr, .int (nI (t (39 + l))), .int wp2, .int (-9)])), (aTr, .inl (cyI, 7, .inl (nA tr))), (aW, .inr (6, [.ref aSh, .ref aN, .ref aO, .ref aFo, .ref aBa, .ref aRc, .int (bI gr)])), (aSh, .inl (cyI, 9, .inl (nA sh))), (aFo, .inl (cyZ, 9, .inl (bA fo))), (aBa, .inl (cyZ, 9, .inl (bA ba))), (aN, .inr (1, [.int (nI (t 0)), .int (nI (t 1)), .int (nI (t 2)), .ref aKd, .ref aFi, .ref aSe, .ref aSb, .ref aLd])), (aFi, .inl (cyI, 9, .inl (nA fi))), (aSe, .inl (cyI, 9, .inl (nA se))), (aLd, .inl (cyI, 3, .inl (nA ld)))] KX5 0 4 rfl (by decide) fl_X5_44 rfl rfl rfl rfl (Nat.le_of_ble_eq_true rfl) dX5_run_30 rfl rfl ?_
  refine j_aload_n (pc' := 34) C dX5_run_33 rfl 0 rfl ?_
  refine j_iconst (v := (nI 0)) (pc' := 35) C dX5_run_34 rfl (by decide +kernel) ?_
  refine j_iconst (v := (nI 1)) (pc' := 36) C dX5_run_35 rfl (by decide +kernel) ?_
  refine j_iconst (v := (nI 0)) (pc' := 37) C dX5_run_36 rfl (by decide +kernel) ?_
  refine j_iconst (v := (nI 0)) (pc' := 38) C dX5_run_37 rfl (by decide +kernel) ?_
  refine j_ldc (v := 65535) (pc' := 40) C dX5_run_38 rfl co_X5_47 ?_
  refine j_top (nI 65535) (by decide +kernel) ?_
  refine j_cVv (As := [.int (nI 0), .int (nI 1), .int (nI 0), .int (nI 0), .int (nI 65535)]) (wr := [(aLd, .inl (cyI, 3, .inl (nA ld)))]) (pc' := 43) C (c_X5_goOn_P 7 (aK := aK) (wb := wb) (wl := wl) (wq := wq) (ww := (nI 0)) (aSl := aSl) (aN := aN) (aW := aW) (aTr := aTr) (wp := wp2) (tr := tr) (aSh := aSh) (aO := aO) (aFo := aFo) (aBa := aBa) (aRc := aRc) (gr := gr) (sh := sh) (fo := fo) (ba := ba) (t := t) (aKd := aKd) (aFi := aFi) (aSe := aSe) (aSb := aSb) (aLd := aLd) (fi := fi) (se := se) (s := s) (f := 0) (g := t (39 + l)) (a := 0) (vs := 1) (cbx := 0) (dep := 0) (q := 65535) (pl0 := []) (wh := (fun _ => 0)) (hT := by first | assumption | omega) (hfi := by first | assumption | omega) (hse := by first | assumption | omega) (hL := by first | assumption | omega) (hg := by omega) (hdp := rfl) (hVW := ⟨fun i hi => (by show 0 < t 0; omega), fun i j hij hj => absurd hij (by omega)⟩) (ha := rfl) (hvs := by decide) (hcb := rfl) (hq := shP_nil t s) (hpl := rfl)) Y_X5_goOn (ml_X5_48) [0, 1, 2, 3, 4, 5, 6, 7, 8] [9] rfl rfl rfl rfl (by decide) rfl rfl rfl dX5_run_40 rfl rfl rfl (Nat.le_of_ble_eq_true rfl) ⟨Nat.le_of_ble_eq_true rfl, Nat.le_of_ble_eq_true rfl⟩ ⟨Nat.le_of_ble_eq_true rfl, Nat.le_of_ble_eq_true rfl⟩ ⟨rfl, rfl⟩ (fun w1 hQ => ?_)
  obtain ⟨wb1_1, wl1_1, wq1_1, tr1_1, rfl, hF40⟩ := hQ
  refine j_perm [(aK, .inr (5, [.int (nI (0 + (pF t s (t (39 + l)) 7 1 0).length)), .int wb1_1, .int wl1_1, .int wq1_1, .int (nI 0), .ref aSl, .ref aN, .ref aW, .ref aTr, .int (nI (t (39 + l))), .int wp2, .int (-9)])), (aTr, .inl (cyI, 7, .inl (nA tr1_1))), (aW, .inr (6, [.ref aSh, .ref aN, .ref aO, .ref aFo, .ref aBa, .ref aRc, .int (bI gr)])), (aSh, .inl (cyI, 9, .inl (nA sh))), (aFo, .inl (cyZ, 9, .inl (bA fo))), (aBa, .inl (cyZ, 9, .inl (bA ba))), (aN, .inr (1, [.int (nI (t 0)), .int (nI (t 1)), .int (nI (t 2)), .ref aKd, .ref aFi, .ref aSe, .ref aSb, .ref aLd])), (aFi, .inl (cyI, 9, .inl (nA fi))), (aSe, .inl (cyI, 9, .inl (nA se))), (aLd, .inl (cyI, 3, .inl (nA ld)))] [1, 2, 3, 4, 5, 6, 7, 8, 9, 0] rfl rfl (by decide) ?_
  exact j_vret C hr hk hA dX5_run_43 (⟨_, _, _, _, by rw [Nat.zero_add]; rfl, by rw [hF40]; simp only [List.nil_append, List.map_id_fun', id_eq]; rfl⟩)

set_option maxHeartbeats 4000000 in
set_option maxRecDepth 100000 in
theorem c_X5_run_S {lch : Launch} {dG : va_G} {cyI cyZ cyO : ClassId} (aK : Nat) (wf : Int32) (wb : Int32) (wl : Int32) (wq : Int32) (ww : Int32) (aSl : Nat) (aN : Nat) (aW : Nat) (aTr : Nat) (wg : Int32) (wp : Int32) (wz : Int32) (tr : Nat → Nat) (aSh : Nat) (aO : Nat) (aFo : Nat) (aBa : Nat) (aRc : Nat) (gr : Bool) (sh : Nat → Nat) (fo : Nat → Bool) (ba : Nat → Bool) (t : Nat → Nat) (aKd : Nat) (aFi : Nat) (aSe : Nat) (aSb : Nat) (aLd : Nat) (fi : Nat → Nat) (se : Nat → Nat) (ld : Nat → Nat) (stl : Nat → Nat) (s : Nat → Nat) (l : Nat) (st : Nat) (hT : WT t) (hfi : ∀ c, c < t 1 → fi c = t (12 + c)) (hse : ∀ c, c < t 1 → se c = t (21 + c)) (hld : ∀ l, l < t 2 → ld l = t (39 + l)) (hL : LDn t s sh fo ba (t 1)) (hl : l < t 2) (hst : st < 16) : Kv lch yX5_run cX5_run 4 (rmk 11) dG (cyI, cyZ, cyO) [.ref aK, .int (nI l), .int (-9), .int (nI st)] [(aK, .inr (5, [.int wf, .int wb, .int wl, .int wq, .int ww, .ref aSl, .ref aN, .ref aW, .ref aTr, .int wg, .int wp, .int wz])), (aTr, .inl (cyI, 7, .inl (nA tr))), (aW, .inr (6, [.ref aSh, .ref aN, .ref aO, .ref aFo, .ref aBa, .ref aRc, .int (bI gr)])), (aSh, .inl (cyI, 9, .inl (nA sh))), (aFo, .inl (cyZ, 9, .inl (bA fo))), (aBa, .inl (cyZ, 9, .inl (bA ba))), (aN, .inr (1, [.int (nI (t 0)), .int (nI (t 1)), .int (nI (t 2)), .ref aKd, .ref aFi, .ref aSe, .ref aSb, .ref aLd])), (aFi, .inl (cyI, 9, .inl (nA fi))), (aSe, .inl (cyI, 9, .inl (nA se))), (aLd, .inl (cyI, 3, .inl (nA ld))), (aSl, .inl (cyI, 7, .inl (nA stl)))] (fun w1 => ∃ (fw1 : Nat), ∃ (stl1 : Nat → Nat), ∃ (tr1 : Nat → Nat), w1 = [(aK, .inr (5, [.int (nI ((pAll t s l).length)), .int wb, .int wl, .int wq, .int (nI fw1), .ref aSl, .ref aN, .ref aW, .ref aTr, .int (nI (t (39 + l))), .int (-9), .int (nI st)])), (aTr, .inl (cyI, 7, .inl (nA tr1))), (aW, .inr (6, [.ref aSh, .ref aN, .ref aO, .ref aFo, .ref aBa, .ref aRc, .int (bI gr)])), (aSh, .inl (cyI, 9, .inl (nA sh))), (aFo, .inl (cyZ, 9, .inl (bA fo))), (aBa, .inl (cyZ, 9, .inl (bA ba))), (aN, .inr (1, [.int (nI (t 0)), .int (nI (t 1)), .int (nI (t 2)), .ref aKd, .ref aFi, .ref aSe, .ref aSb, .ref aLd])), (aFi, .inl (cyI, 9, .inl (nA fi))), (aSe, .inl (cyI, 9, .inl (nA se))), (aLd, .inl (cyI, 3, .inl (nA ld))), (aSl, .inl (cyI, 7, .inl (nA stl1)))] ∧ RC9 (stB t s l st) fw1 stl1) := by
  have h1 := hT.n
  have h2 := hT.l hl
  have hal := pAll_len (s := s) (l := l) hT
  refine Kv.of (own := RX5) rfl (by decide) (Nat.le_of_ble_eq_true rfl) (fun p0 e0 s0 m0 ar0 be0 me0 cd0 A0 C hr hk hnm hA => ?_)
  refine j_lsub [(0, .ref aK), (1, .int (nI l)), (2, .int (-9)), (3, .int (nI st))] [0, 1, 2, 3] rfl ?_
  refine j_aload_n (pc' := 1) C dX5_run_0 rfl 0 rfl ?_
  refine j_aload_n (pc' := 2) C dX5_run_1 rfl 0 rfl ?_
  refine j_get (v := .ref aN) (pc' := 5) C KX5 0 6 rfl (by decide) fl_X5_18 rfl rfl dX5_run_2 rfl ?_
  refine j_get (v := .ref aLd) (pc' := 8) C KX1 6 7 rfl (by decide) fl_X5_26 rfl rfl dX5_run_5 rfl ?_
  refine j_iload_n (pc' := 9) C dX5_run_8 rfl 1 rfl ?_
  refine j_nald (pc' := 10) C 9 rfl (by omega) (by decide) dX5_run_9 rfl ?_
  refine j_top (nI (t (39 + l))) (by rw [hld l hl]) ?_
  refine j_put (pc' := 13) C [(aK, .inr (5, [.int wf, .int wb, .int wl, .int wq, .int ww, .ref aSl, .ref aN, .ref aW, .ref aTr, .int (nI (t (39 + l))), .int wp, .int wz])), (aTr, .inl (cyI, 7, .inl (nA tr))), (aW, .inr (6, [.ref aSh, .ref aN, .ref aO, .ref aFo, .ref aBa, .ref aRc, .int (bI gr)])), (aSh, .inl (cyI, 9, .inl (nA sh))), (aFo, .inl (cyZ, 9, .inl (bA fo))), (aBa, .inl (cyZ, 9, .inl (bA ba))), (aN, .inr (1, [.int (nI (t 0)), .int (nI (t 1)), .int (nI (t 2)), .ref aKd, .ref aFi, .ref aSe, .ref aSb, .ref aLd])), (aFi, .inl (cyI, 9, .inl (nA fi))), (aSe, .inl (cyI, 9, .inl (nA se))), (aLd, .inl (cyI, 3, .inl (nA ld))), (aSl, .inl (cyI, 7, .inl (nA stl)))] KX5 0 9 rfl (by decide) fl_X5_31 rfl rfl rfl rfl (Nat.le_of_ble_eq_true rfl) dX5_run_10 rfl rfl ?_
  refine j_aload_n (pc' := 14) C dX5_run_13 rfl 0 rfl ?_
  refine j_iload_n (pc' := 15) C dX5_run_14 rfl 2 rfl ?_
  refine j_put (pc' := 18) C [(aK, .inr (5, [.int wf, .int wb, .int wl, .int wq, .int ww, .ref aSl, .ref aN, .ref aW, .ref aTr, .int (nI (t (39 + l))), .int (-9), .int wz])), (aTr, .inl (cyI, 7, .inl (nA tr))), (aW, .inr (6, [.ref aSh, .ref aN, .ref aO, .ref aFo, .ref aBa, .ref aRc, .int (bI gr)])), (aSh, .inl (cyI, 9, .inl (nA sh))), (aFo, .inl (cyZ, 9, .inl (bA fo))), (aBa, .inl (cyZ, 9, .inl (bA ba))), (aN, .inr (1, [.int (nI (t 0)), .int (nI (t 1)), .int (nI (t 2)), .ref aKd, .ref aFi, .ref aSe, .ref aSb, .ref aLd])), (aFi, .inl (cyI, 9, .inl (nA fi))), (aSe, .inl (cyI, 9, .inl (nA se))), (aLd, .inl (cyI, 3, .inl (nA ld))), (aSl, .inl (cyI, 7, .inl (nA stl)))] KX5 0 10 rfl (by decide) fl_X5_35 rfl rfl rfl rfl (Nat.le_of_ble_eq_true rfl) dX5_run_15 rfl rfl ?_
  refine j_aload_n (pc' := 19) C dX5_run_18 rfl 0 rfl ?_
  refine j_iload_n (pc' := 20) C dX5_run_19 rfl 3 rfl ?_
  refine j_put (pc' := 23) C [(aK, .inr (5, [.int wf, .int wb, .int wl, .int wq, .int ww, .ref aSl, .ref aN, .ref aW, .ref aTr, .int (nI (t (39 + l))), .int (-9), .int (nI st)])), (aTr, .inl (cyI, 7, .inl (nA tr))), (aW, .inr (6, [.ref aSh, .ref aN, .ref aO, .ref aFo, .ref aBa, .ref aRc, .int (bI gr)])), (aSh, .inl (cyI, 9, .inl (nA sh))), (aFo, .inl (cyZ, 9, .inl (bA fo))), (aBa, .inl (cyZ, 9, .inl (bA ba))), (aN, .inr (1, [.int (nI (t 0)), .int (nI (t 1)), .int (nI (t 2)), .ref aKd, .ref aFi, .ref aSe, .ref aSb, .ref aLd])), (aFi, .inl (cyI, 9, .inl (nA fi))), (aSe, .inl (cyI, 9, .inl (nA se))), (aLd, .inl (cyI, 3, .inl (nA ld))), (aSl, .inl (cyI, 7, .inl (nA stl)))] KX5 0 11 rfl (by decide) fl_X5_38 rfl rfl rfl rfl (Nat.le_of_ble_eq_true rfl) dX5_run_20 rfl rfl ?_
  refine j_aload_n (pc' := 24) C dX5_run_23 rfl 0 rfl ?_
  refine j_iconst (v := (nI 0)) (pc' := 25) C dX5_run_24 rfl (by decide +kernel) ?_
  refine j_put (pc' := 28) C [(aK, .inr (5, [.int (nI 0), .int wb, .int wl, .int wq, .int ww, .ref aSl, .ref aN, .ref aW, .ref aTr, .int (nI (t (39 + l))), .int (-9), .int (nI st)])), (aTr, .inl (cyI, 7, .inl (nA tr))), (aW, .inr (6, [.ref aSh, .ref aN, .ref aO, .ref aFo, .ref aBa, .ref aRc, .int (bI gr)])), (aSh, .inl (cyI, 9, .inl (nA sh))), (aFo, .inl (cyZ, 9, .inl (bA fo))), (aBa, .inl (cyZ, 9, .inl (bA ba))), (aN, .inr (1, [.int (nI (t 0)), .int (nI (t 1)), .int (nI (t 2)), .ref aKd, .ref aFi, .ref aSe, .ref aSb, .ref aLd])), (aFi, .inl (cyI, 9, .inl (nA fi))), (aSe, .inl (cyI, 9, .inl (nA se))), (aLd, .inl (cyI, 3, .inl (nA ld))), (aSl, .inl (cyI, 7, .inl (nA stl)))] KX5 0 0 rfl (by decide) fl_X5_41 rfl rfl rfl rfl (Nat.le_of_ble_eq_true rfl) dX5_run_25 rfl rfl ?_
  refine j_aload_n (pc' := 29) C dX5_run_28 rfl 0 rfl ?_
  refine j_iconst (v := (nI 0)) (pc' := 30) C dX5_run_29 rfl (by decide +kernel) ?_
  refine j_put (pc' := 33) C [(aK, .inr (5, [.int (nI 0), .int wb, .int wl, .int wq, .int (nI 0), .ref aSl, .ref aN, .ref aW, .ref aTr, .int (nI (t (39 + l))), .int (-9), .int (nI st)])), (aTr, .inl (cyI, 7, .inl (nA tr))), (aW, .inr (6, [.ref aSh, .ref aN, .ref aO, .ref aFo, .ref aBa, .ref aRc, .int (bI gr)])), (aSh, .inl (cyI, 9, .inl (nA sh))), (aFo, .inl (cyZ, 9, .inl (bA fo))), (aBa, .inl (cyZ, 9, .inl (bA ba))), (aN, .inr (1, [.int (nI (t 0)), .int (nI (t 1)), .int (nI (t 2)), .ref aKd, .ref aFi, .ref aSe, .ref aSb, .ref aLd])), (aFi, .inl (cyI, 9, .inl (nA fi))), (aSe, .inl (cyI, 9, .inl (nA se))), (aLd, .inl (cyI, 3, .inl (nA ld))), (aSl, .inl (cyI, 7, .inl (nA stl)))] KX5 0 4 rfl (by decide) fl_X5_44 rfl rfl rfl rfl (Nat.le_of_ble_eq_true rfl) dX5_run_30 rfl rfl ?_
  refine j_aload_n (pc' := 34) C dX5_run_33 rfl 0 rfl ?_
  refine j_iconst (v := (nI 0)) (pc' := 35) C dX5_run_34 rfl (by decide +kernel) ?_
  refine j_iconst (v := (nI 1)) (pc' := 36) C dX5_run_35 rfl (by decide +kernel) ?_
  refine j_iconst (v := (nI 0)) (pc' := 37) C dX5_run_36 rfl (by decide +kernel) ?_
  refine j_iconst (v := (nI 0)) (pc' := 38) C dX5_run_37 rfl (by decide +kernel) ?_
  refine j_ldc (v := 65535) (pc' := 40) C dX5_run_38 rfl co_X5_47 ?_
  refine j_top (nI 65535) (by decide +kernel) ?_
  refine j_cVv (As := [.int (nI 0), .int (nI 1), .int (nI 0), .int (nI 0), .int (nI 65535)]) (wr := [(aLd, .inl (cyI, 3, .inl (nA ld)))]) (pc' := 43) C (c_X5_goOn_S 7 (aK := aK) (wb := wb) (wl := wl) (wq := wq) (aSl := aSl) (aN := aN) (aW := aW) (aTr := aTr) (tr := tr) (aSh := aSh) (aO := aO) (aFo := aFo) (aBa := aBa) (aRc := aRc) (gr := gr) (sh := sh) (fo := fo) (ba := ba) (t := t) (aKd := aKd) (aFi := aFi) (aSe := aSe) (aSb := aSb) (aLd := aLd) (fi := fi) (se := se) (stl := stl) (s := s) (f := 0) (g := t (39 + l)) (a := 0) (vs := 1) (cbx := 0) (dep := 0) (q := 65535) (pl0 := []) (wh := (fun _ => 0)) (st := st) (fw := 0) (res := none) (hT := by first | assumption | omega) (hfi := by first | assumption | omega) (hse := by first | assumption | omega) (hL := by first | assumption | omega) (hg := by omega) (hdp := rfl) (hVW := ⟨fun i hi => (by show 0 < t 0; omega), fun i j hij hj => absurd hij (by omega)⟩) (ha := rfl) (hvs := by decide) (hcb := rfl) (hq := shP_nil t s) (hpl := rfl) (hst := hst) (hff := by show 0 + (pAll t s l).length < _; omega) (hRC := rfl) (htr := fun i hi => absurd hi (by omega)) (hg0 := h2.1) (hw0 := rfl)) Y_X5_goOn (ml_X5_48) [0, 1, 2, 3, 4, 5, 6, 7, 8, 10] [9] rfl rfl rfl rfl (by decide) rfl rfl rfl dX5_run_40 rfl rfl rfl (Nat.le_of_ble_eq_true rfl) ⟨Nat.le_of_ble_eq_true rfl, Nat.le_of_ble_eq_true rfl⟩ ⟨Nat.le_of_ble_eq_true rfl, Nat.le_of_ble_eq_true rfl⟩ ⟨rfl, rfl⟩ (fun w1 hQ => ?_)
  obtain ⟨fw1_1, stl1_1, tr1_1, rfl, hF40⟩ := hQ
  refine j_perm [(aK, .inr (5, [.int (nI (0 + (pF t s (t (39 + l)) 7 1 0).length)), .int wb, .int wl, .int wq, .int (nI fw1_1), .ref aSl, .ref aN, .ref aW, .ref aTr, .int (nI (t (39 + l))), .int (-9), .int (nI st)])), (aTr, .inl (cyI, 7, .inl (nA tr1_1))), (aW, .inr (6, [.ref aSh, .ref aN, .ref aO, .ref aFo, .ref aBa, .ref aRc, .int (bI gr)])), (aSh, .inl (cyI, 9, .inl (nA sh))), (aFo, .inl (cyZ, 9, .inl (bA fo))), (aBa, .inl (cyZ, 9, .inl (bA ba))), (aN, .inr (1, [.int (nI (t 0)), .int (nI (t 1)), .int (nI (t 2)), .ref aKd, .ref aFi, .ref aSe, .ref aSb, .ref aLd])), (aFi, .inl (cyI, 9, .inl (nA fi))), (aSe, .inl (cyI, 9, .inl (nA se))), (aLd, .inl (cyI, 3, .inl (nA ld))), (aSl, .inl (cyI, 7, .inl (nA stl1_1)))] [1, 2, 3, 4, 5, 6, 7, 8, 9, 0, 10] rfl rfl (by decide) ?_
  exact j_vret C hr hk hA dX5_run_43 (⟨_, _, _, by rw [Nat.zero_add]; rfl, by have h77 := hF40.1; simp only [List.nil_append, List.map_id_fun', id_eq] at h77; exact h77⟩)
