set_option maxHeartbeats 4000000 in
set_option maxRecDepth 100000 in
theorem c_X1_reset {lch : Launch} {dG : va_G} {cyI cyZ cyO : ClassId} (aD : Nat) (aDk : Nat) (aDf : Nat) (aDs : Nat) (aDb : Nat) (aDl : Nat) (q0 : Int32) (q1 : Int32) (q2 : Int32)  : Kv lch yX1_reset cX1_reset 1 (rmk 1) dG (cyI, cyZ, cyO) [.ref aD] [(aD, .inr (1, [.int q0, .int q1, .int q2, .ref aDk, .ref aDf, .ref aDs, .ref aDb, .ref aDl]))] (fun w1 => w1 = [(aD, .inr (1, [.int (nI 3), .int (nI 0), .int (nI 0), .ref aDk, .ref aDf, .ref aDs, .ref aDb, .ref aDl]))]) := by
  refine Kv.of (own := RX1) rfl (by decide) (Nat.le_of_ble_eq_true rfl) (fun p0 e0 s0 m0 ar0 be0 me0 cd0 A0 C hr hk hnm hA => ?_)
  refine j_lsub [(0, .ref aD)] [0] rfl ?_
  refine j_aload_n (pc' := 1) C dX1_reset_0 rfl 0 rfl ?_
  refine j_iconst (v := (nI 3)) (pc' := 2) C dX1_reset_1 rfl (by decide +kernel) ?_
  refine j_put (pc' := 5) C [(aD, .inr (1, [.int (nI 3), .int q1, .int q2, .ref aDk, .ref aDf, .ref aDs, .ref aDb, .ref aDl]))] KX1 0 0 rfl (by decide) fl_X1_9 rfl rfl rfl rfl (Nat.le_of_ble_eq_true rfl) dX1_reset_2 rfl rfl ?_
  refine j_aload_n (pc' := 6) C dX1_reset_5 rfl 0 rfl ?_
  refine j_iconst (v := (nI 0)) (pc' := 7) C dX1_reset_6 rfl (by decide +kernel) ?_
  refine j_put (pc' := 10) C [(aD, .inr (1, [.int (nI 3), .int (nI 0), .int q2, .ref aDk, .ref aDf, .ref aDs, .ref aDb, .ref aDl]))] KX1 0 1 rfl (by decide) fl_X1_31 rfl rfl rfl rfl (Nat.le_of_ble_eq_true rfl) dX1_reset_7 rfl rfl ?_
  refine j_aload_n (pc' := 11) C dX1_reset_10 rfl 0 rfl ?_
  refine j_iconst (v := (nI 0)) (pc' := 12) C dX1_reset_11 rfl (by decide +kernel) ?_
  refine j_put (pc' := 15) C [(aD, .inr (1, [.int (nI 3), .int (nI 0), .int (nI 0), .ref aDk, .ref aDf, .ref aDs, .ref aDb, .ref aDl]))] KX1 0 2 rfl (by decide) fl_X1_34 rfl rfl rfl rfl (Nat.le_of_ble_eq_true rfl) dX1_reset_12 rfl rfl ?_
  exact j_vret C hr hk hA dX1_reset_15 (rfl)

set_option maxHeartbeats 4000000 in
set_option maxRecDepth 100000 in
theorem c_X1_addContact {lch : Launch} {dG : va_G} {cyI cyZ cyO : ClassId} (aD : Nat) (d : Nat → Nat) (aDk : Nat) (aDf : Nat) (aDs : Nat) (aDb : Nat) (aDl : Nat) (dkd : Nat → Nat) (dfi : Nat → Nat) (dse : Nat → Nat) (dsb : Nat → Nat) (kd : Nat) (u : Nat) (v : Nat) (b : Nat) (hc : d 1 < 9) : Kv lch yX1_addContact cX1_addContact 5 (rmk 1) dG (cyI, cyZ, cyO) [.ref aD, .int (nI kd), .int (nI u), .int (nI v), .int (nI b)] [(aD, .inr (1, [.int (nI (d 0)), .int (nI (d 1)), .int (nI (d 2)), .ref aDk, .ref aDf, .ref aDs, .ref aDb, .ref aDl])), (aDk, .inl (cyI, 9, .inl (nA dkd))), (aDf, .inl (cyI, 9, .inl (nA dfi))), (aDs, .inl (cyI, 9, .inl (nA dse))), (aDb, .inl (cyI, 9, .inl (nA dsb)))] (fun w1 => w1 = [(aD, .inr (1, [.int (nI (d 0)), .int (nI (d 1 + 1)), .int (nI (d 2)), .ref aDk, .ref aDf, .ref aDs, .ref aDb, .ref aDl])), (aDk, .inl (cyI, 9, .inl (nA (uN dkd (d 1) kd)))), (aDf, .inl (cyI, 9, .inl (nA (uN dfi (d 1) u)))), (aDs, .inl (cyI, 9, .inl (nA (uN dse (d 1) v)))), (aDb, .inl (cyI, 9, .inl (nA (uN dsb (d 1) b))))]) := by
  refine Kv.of (own := RX1) rfl (by decide) (Nat.le_of_ble_eq_true rfl) (fun p0 e0 s0 m0 ar0 be0 me0 cd0 A0 C hr hk hnm hA => ?_)
  refine j_lsub [(0, .ref aD), (1, .int (nI kd)), (2, .int (nI u)), (3, .int (nI v)), (4, .int (nI b))] [0, 1, 2, 3, 4] rfl ?_
  refine j_aload_n (pc' := 1) C dX1_addContact_0 rfl 0 rfl ?_
  refine j_get (v := .int (nI (d 1))) (pc' := 4) C KX1 0 1 rfl (by decide) fl_X1_31 rfl rfl dX1_addContact_1 rfl ?_
  refine j_bipush (v := (nI 9)) (pc' := 6) C dX1_addContact_4 rfl (by decide +kernel) ?_
  refine j_nc_lt (pc' := 9) C 10 dX1_addContact_6 (by decide) rfl (by omega) (by omega) (fun c6 => ?_) (fun c6 => ?_)
  · refine j_aload_n (pc' := 11) C dX1_addContact_10 rfl 0 rfl ?_
    refine j_get (v := .ref aDk) (pc' := 14) C KX1 0 3 rfl (by decide) fl_X1_15 rfl rfl dX1_addContact_11 rfl ?_
    refine j_aload_n (pc' := 15) C dX1_addContact_14 rfl 0 rfl ?_
    refine j_get (v := .int (nI (d 1))) (pc' := 18) C KX1 0 1 rfl (by decide) fl_X1_31 rfl rfl dX1_addContact_15 rfl ?_
    refine j_iload_n (pc' := 19) C dX1_addContact_18 rfl 1 rfl ?_
    refine j_nast (pc' := 20) C [(aD, .inr (1, [.int (nI (d 0)), .int (nI (d 1)), .int (nI (d 2)), .ref aDk, .ref aDf, .ref aDs, .ref aDb, .ref aDl])), (aDk, .inl (cyI, 9, .inl (nA (uN dkd (d 1) kd)))), (aDf, .inl (cyI, 9, .inl (nA dfi))), (aDs, .inl (cyI, 9, .inl (nA dse))), (aDb, .inl (cyI, 9, .inl (nA dsb)))] 1 rfl (by omega) (by decide) dX1_addContact_19 rfl rfl ?_
    refine j_aload_n (pc' := 21) C dX1_addContact_20 rfl 0 rfl ?_
    refine j_get (v := .ref aDf) (pc' := 24) C KX1 0 4 rfl (by decide) fl_X1_19 rfl rfl dX1_addContact_21 rfl ?_
    refine j_aload_n (pc' := 25) C dX1_addContact_24 rfl 0 rfl ?_
    refine j_get (v := .int (nI (d 1))) (pc' := 28) C KX1 0 1 rfl (by decide) fl_X1_31 rfl rfl dX1_addContact_25 rfl ?_
    refine j_iload_n (pc' := 29) C dX1_addContact_28 rfl 2 rfl ?_
    refine j_nast (pc' := 30) C [(aD, .inr (1, [.int (nI (d 0)), .int (nI (d 1)), .int (nI (d 2)), .ref aDk, .ref aDf, .ref aDs, .ref aDb, .ref aDl])), (aDk, .inl (cyI, 9, .inl (nA (uN dkd (d 1) kd)))), (aDf, .inl (cyI, 9, .inl (nA (uN dfi (d 1) u)))), (aDs, .inl (cyI, 9, .inl (nA dse))), (aDb, .inl (cyI, 9, .inl (nA dsb)))] 2 rfl (by omega) (by decide) dX1_addContact_29 rfl rfl ?_
    refine j_aload_n (pc' := 31) C dX1_addContact_30 rfl 0 rfl ?_
    refine j_get (v := .ref aDs) (pc' := 34) C KX1 0 5 rfl (by decide) fl_X1_22 rfl rfl dX1_addContact_31 rfl ?_
    refine j_aload_n (pc' := 35) C dX1_addContact_34 rfl 0 rfl ?_
    refine j_get (v := .int (nI (d 1))) (pc' := 38) C KX1 0 1 rfl (by decide) fl_X1_31 rfl rfl dX1_addContact_35 rfl ?_
    refine j_iload_n (pc' := 39) C dX1_addContact_38 rfl 3 rfl ?_
    refine j_nast (pc' := 40) C [(aD, .inr (1, [.int (nI (d 0)), .int (nI (d 1)), .int (nI (d 2)), .ref aDk, .ref aDf, .ref aDs, .ref aDb, .ref aDl])), (aDk, .inl (cyI, 9, .inl (nA (uN dkd (d 1) kd)))), (aDf, .inl (cyI, 9, .inl (nA (uN dfi (d 1) u)))), (aDs, .inl (cyI, 9, .inl (nA (uN dse (d 1) v)))), (aDb, .inl (cyI, 9, .inl (nA dsb)))] 3 rfl (by omega) (by decide) dX1_addContact_39 rfl rfl ?_
    refine j_aload_n (pc' := 41) C dX1_addContact_40 rfl 0 rfl ?_
    refine j_get (v := .ref aDb) (pc' := 44) C KX1 0 6 rfl (by decide) fl_X1_25 rfl rfl dX1_addContact_41 rfl ?_
    refine j_aload_n (pc' := 45) C dX1_addContact_44 rfl 0 rfl ?_
    refine j_get (v := .int (nI (d 1))) (pc' := 48) C KX1 0 1 rfl (by decide) fl_X1_31 rfl rfl dX1_addContact_45 rfl ?_
    refine j_iload (pc' := 50) C dX1_addContact_48 rfl 4 rfl ?_
    refine j_nast (pc' := 51) C [(aD, .inr (1, [.int (nI (d 0)), .int (nI (d 1)), .int (nI (d 2)), .ref aDk, .ref aDf, .ref aDs, .ref aDb, .ref aDl])), (aDk, .inl (cyI, 9, .inl (nA (uN dkd (d 1) kd)))), (aDf, .inl (cyI, 9, .inl (nA (uN dfi (d 1) u)))), (aDs, .inl (cyI, 9, .inl (nA (uN dse (d 1) v)))), (aDb, .inl (cyI, 9, .inl (nA (uN dsb (d 1) b))))] 4 rfl (by omega) (by decide) dX1_addContact_50 rfl rfl ?_
    refine j_aload_n (pc' := 52) C dX1_addContact_51 rfl 0 rfl ?_
    refine j_dup (pc' := 53) C dX1_addContact_52 rfl rfl ?_
    refine j_get (v := .int (nI (d 1))) (pc' := 56) C KX1 0 1 rfl (by decide) fl_X1_31 rfl rfl dX1_addContact_53 rfl ?_
    refine j_iconst (v := (nI 1)) (pc' := 57) C dX1_addContact_56 rfl (by decide +kernel) ?_
    refine j_iadd (v := (nI ((d 1) + 1))) (pc' := 58) C dX1_addContact_57 rfl (nI_add (d 1) 1) ?_
    refine j_put (pc' := 61) C [(aD, .inr (1, [.int (nI (d 0)), .int (nI ((d 1) + 1)), .int (nI (d 2)), .ref aDk, .ref aDf, .ref aDs, .ref aDb, .ref aDl])), (aDk, .inl (cyI, 9, .inl (nA (uN dkd (d 1) kd)))), (aDf, .inl (cyI, 9, .inl (nA (uN dfi (d 1) u)))), (aDs, .inl (cyI, 9, .inl (nA (uN dse (d 1) v)))), (aDb, .inl (cyI, 9, .inl (nA (uN dsb (d 1) b))))] KX1 0 1 rfl (by decide) fl_X1_31 rfl rfl rfl rfl (Nat.le_of_ble_eq_true rfl) dX1_addContact_58 rfl rfl ?_
    exact j_vret C hr hk hA dX1_addContact_61 (rfl)
  · exact absurd c6 (by omega)

set_option maxHeartbeats 4000000 in
set_option maxRecDepth 100000 in
theorem c_X1_addLoad {lch : Launch} {dG : va_G} {cyI cyZ cyO : ClassId} (aD : Nat) (d : Nat → Nat) (aDk : Nat) (aDf : Nat) (aDs : Nat) (aDb : Nat) (aDl : Nat) (dld : Nat → Nat) (u : Nat) (hc : d 2 < 3) : Kv lch yX1_addLoad cX1_addLoad 2 (rmk 1) dG (cyI, cyZ, cyO) [.ref aD, .int (nI u)] [(aD, .inr (1, [.int (nI (d 0)), .int (nI (d 1)), .int (nI (d 2)), .ref aDk, .ref aDf, .ref aDs, .ref aDb, .ref aDl])), (aDl, .inl (cyI, 3, .inl (nA dld)))] (fun w1 => w1 = [(aD, .inr (1, [.int (nI (d 0)), .int (nI (d 1)), .int (nI (d 2 + 1)), .ref aDk, .ref aDf, .ref aDs, .ref aDb, .ref aDl])), (aDl, .inl (cyI, 3, .inl (nA (uN dld (d 2) u))))]) := by
  refine Kv.of (own := RX1) rfl (by decide) (Nat.le_of_ble_eq_true rfl) (fun p0 e0 s0 m0 ar0 be0 me0 cd0 A0 C hr hk hnm hA => ?_)
  refine j_lsub [(0, .ref aD), (1, .int (nI u))] [0, 1] rfl ?_
  refine j_aload_n (pc' := 1) C dX1_addLoad_0 rfl 0 rfl ?_
  refine j_get (v := .int (nI (d 2))) (pc' := 4) C KX1 0 2 rfl (by decide) fl_X1_34 rfl rfl dX1_addLoad_1 rfl ?_
  refine j_iconst (v := (nI 3)) (pc' := 5) C dX1_addLoad_4 rfl (by decide +kernel) ?_
  refine j_nc_lt (pc' := 8) C 9 dX1_addLoad_5 (by decide) rfl (by omega) (by omega) (fun c5 => ?_) (fun c5 => ?_)
  · refine j_aload_n (pc' := 10) C dX1_addLoad_9 rfl 0 rfl ?_
    refine j_get (v := .ref aDl) (pc' := 13) C KX1 0 7 rfl (by decide) fl_X1_28 rfl rfl dX1_addLoad_10 rfl ?_
    refine j_aload_n (pc' := 14) C dX1_addLoad_13 rfl 0 rfl ?_
    refine j_get (v := .int (nI (d 2))) (pc' := 17) C KX1 0 2 rfl (by decide) fl_X1_34 rfl rfl dX1_addLoad_14 rfl ?_
    refine j_iload_n (pc' := 18) C dX1_addLoad_17 rfl 1 rfl ?_
    refine j_nast (pc' := 19) C [(aD, .inr (1, [.int (nI (d 0)), .int (nI (d 1)), .int (nI (d 2)), .ref aDk, .ref aDf, .ref aDs, .ref aDb, .ref aDl])), (aDl, .inl (cyI, 3, .inl (nA (uN dld (d 2) u))))] 1 rfl (by omega) (by decide) dX1_addLoad_18 rfl rfl ?_
    refine j_aload_n (pc' := 20) C dX1_addLoad_19 rfl 0 rfl ?_
    refine j_dup (pc' := 21) C dX1_addLoad_20 rfl rfl ?_
    refine j_get (v := .int (nI (d 2))) (pc' := 24) C KX1 0 2 rfl (by decide) fl_X1_34 rfl rfl dX1_addLoad_21 rfl ?_
    refine j_iconst (v := (nI 1)) (pc' := 25) C dX1_addLoad_24 rfl (by decide +kernel) ?_
    refine j_iadd (v := (nI ((d 2) + 1))) (pc' := 26) C dX1_addLoad_25 rfl (nI_add (d 2) 1) ?_
    refine j_put (pc' := 29) C [(aD, .inr (1, [.int (nI (d 0)), .int (nI (d 1)), .int (nI ((d 2) + 1)), .ref aDk, .ref aDf, .ref aDs, .ref aDb, .ref aDl])), (aDl, .inl (cyI, 3, .inl (nA (uN dld (d 2) u))))] KX1 0 2 rfl (by decide) fl_X1_34 rfl rfl rfl rfl (Nat.le_of_ble_eq_true rfl) dX1_addLoad_26 rfl rfl ?_
    exact j_vret C hr hk hA dX1_addLoad_29 (rfl)
  · exact absurd c5 (by omega)

set_option maxHeartbeats 4000000 in
set_option maxRecDepth 100000 in
theorem c_X1_hasLoadAt {lch : Launch} {dG : va_G} {cyI cyZ cyO : ClassId} (aD : Nat) (d : Nat → Nat) (aDk : Nat) (aDf : Nat) (aDs : Nat) (aDb : Nat) (aDl : Nat) (dld : Nat → Nat) (u : Nat) (hc : d 2 ≤ 3) (hu : u < 10) (hv : ∀ i, i < d 2 → dld i < 10) : Ki lch yX1_hasLoadAt cX1_hasLoadAt 3 .boolean (rmk 1) dG (cyI, cyZ, cyO) [.ref aD, .int (nI u)] [(aD, .inr (1, [.int (nI (d 0)), .int (nI (d 1)), .int (nI (d 2)), .ref aDk, .ref aDf, .ref aDs, .ref aDb, .ref aDl])), (aDl, .inl (cyI, 3, .inl (nA dld)))] (fun r w1 => w1 = [(aD, .inr (1, [.int (nI (d 0)), .int (nI (d 1)), .int (nI (d 2)), .ref aDk, .ref aDf, .ref aDs, .ref aDb, .ref aDl])), (aDl, .inl (cyI, 3, .inl (nA dld)))] ∧ r = (bI (exB (fun i => decide (dld i = u)) (d 2)))) := by
  refine Ki.of (own := RX1) rfl (by decide) (Nat.le_of_ble_eq_true rfl) (fun p0 e0 s0 m0 ar0 be0 me0 cd0 A0 C hr hk hnm hA => ?_)
  refine j_lsub [(0, .ref aD), (1, .int (nI u))] [0, 1] rfl ?_
  refine j_iconst (v := (nI 0)) (pc' := 1) C dX1_hasLoadAt_0 rfl (by decide +kernel) ?_
  refine j_istore_n (pc' := 2) C [(2, .int (nI 0)), (0, .ref aD), (1, .int (nI u))] dX1_hasLoadAt_1 rfl (by decide) rfl ?_
  refine j_lsub [(0, .ref aD), (1, .int (nI u)), (2, .int (nI 0))] [1, 2, 0] rfl ?_
  refine j_loop1 (fun (i : Nat) => [(aD, .inr (1, [.int (nI (d 0)), .int (nI (d 1)), .int (nI (d 2)), .ref aDk, .ref aDf, .ref aDs, .ref aDb, .ref aDl])), (aDl, .inl (cyI, 3, .inl (nA dld)))]) (fun (i : Nat) => [(0, .ref aD), (1, .int (nI u)), (2, .int (nI i))]) (fun (i : Nat) => []) (fun (i : Nat) => i ≤ d 2 ∧ exB (fun i => decide (dld i = u)) i = false) (fun (i : Nat) => d 2 - i) ?_ 0 ?_
  · intro i hI2 ih2
    obtain ⟨hi, hb⟩ := hI2
    refine j_iload_n (pc' := 3) C dX1_hasLoadAt_2 rfl 2 rfl ?_
    refine j_aload_n (pc' := 4) C dX1_hasLoadAt_3 rfl 0 rfl ?_
    refine j_get (v := .int (nI (d 2))) (pc' := 7) C KX1 0 2 rfl (by decide) fl_X1_34 rfl rfl dX1_hasLoadAt_4 rfl ?_
    refine j_nc_ge (pc' := 10) C 28 dX1_hasLoadAt_7 (by decide) rfl (by omega) (by omega) (fun c7 => ?_) (fun c7 => ?_)
    · refine j_iconst (v := (nI 0)) (pc' := 29) C dX1_hasLoadAt_28 rfl (by decide +kernel) ?_
      refine j_top (bI false) (by decide +kernel) ?_
      exact j_iret C hr hk hA dX1_hasLoadAt_29 (nrw_bI _) (⟨rfl, by rw [← show i = d 2 by omega, hb]⟩)
    · have h3 := hv i c7
      refine j_aload_n (pc' := 11) C dX1_hasLoadAt_10 rfl 0 rfl ?_
      refine j_get (v := .ref aDl) (pc' := 14) C KX1 0 7 rfl (by decide) fl_X1_28 rfl rfl dX1_hasLoadAt_11 rfl ?_
      refine j_iload_n (pc' := 15) C dX1_hasLoadAt_14 rfl 2 rfl ?_
      refine j_nald (pc' := 16) C 1 rfl (by omega) (by decide) dX1_hasLoadAt_15 rfl ?_
      refine j_iload_n (pc' := 17) C dX1_hasLoadAt_16 rfl 1 rfl ?_
      refine j_nc_ne (pc' := 20) C 22 dX1_hasLoadAt_17 (by decide) rfl (by omega) (by omega) (fun c17 => ?_) (fun c17 => ?_)
      · refine j_iinc (v := (nI (i + 1))) (pc' := 25) C [(2, .int (nI (i + 1))), (0, .ref aD), (1, .int (nI u))] dX1_hasLoadAt_22 rfl 2 rfl (inc_n i 1) (by decide) rfl ?_
        refine j_goto C 2 dX1_hasLoadAt_25 (by decide) ?_
        refine j_lsub [(0, .ref aD), (1, .int (nI u)), (2, .int (nI (i + 1)))] [1, 2, 0] rfl ?_
        exact ih2 (i + 1) (⟨by omega, by rw [exB, hb, decide_eq_false c17]; rfl⟩) (by omega)
      · refine j_iconst (v := (nI 1)) (pc' := 21) C dX1_hasLoadAt_20 rfl (by decide +kernel) ?_
        refine j_top (bI true) (by decide +kernel) ?_
        exact j_iret C hr hk hA dX1_hasLoadAt_21 (nrw_bI _) (⟨rfl, by rw [exB_f (i := i + 1) (by rw [exB, decide_eq_true c17, Bool.or_true]) (by omega)]⟩)
  · exact ⟨Nat.zero_le _, rfl⟩

set_option maxHeartbeats 4000000 in
set_option maxRecDepth 100000 in
theorem c_X1_takeFrom {lch : Launch} {dG : va_G} {cyI cyZ cyO : ClassId} (aN : Nat) (aKd : Nat) (aFi : Nat) (aSe : Nat) (aSb : Nat) (aLd : Nat) (kd : Nat → Nat) (fi : Nat → Nat) (se : Nat → Nat) (sb : Nat → Nat) (ld : Nat → Nat) (aD : Nat) (d : Nat → Nat) (aDk : Nat) (aDf : Nat) (aDs : Nat) (aDb : Nat) (aDl : Nat) (dkd : Nat → Nat) (dfi : Nat → Nat) (dse : Nat → Nat) (dsb : Nat → Nat) (dld : Nat → Nat) (q0 : Int32) (q1 : Int32) (q2 : Int32)  : Kv lch yX1_takeFrom cX1_takeFrom 2 (rmk 1) dG (cyI, cyZ, cyO) [.ref aN, .ref aD] [(aN, .inr (1, [.int q0, .int q1, .int q2, .ref aKd, .ref aFi, .ref aSe, .ref aSb, .ref aLd])), (aKd, .inl (cyI, 9, .inl (nA kd))), (aFi, .inl (cyI, 9, .inl (nA fi))), (aSe, .inl (cyI, 9, .inl (nA se))), (aSb, .inl (cyI, 9, .inl (nA sb))), (aLd, .inl (cyI, 3, .inl (nA ld))), (aD, .inr (1, [.int (nI (d 0)), .int (nI (d 1)), .int (nI (d 2)), .ref aDk, .ref aDf, .ref aDs, .ref aDb, .ref aDl])), (aDk, .inl (cyI, 9, .inl (nA dkd))), (aDf, .inl (cyI, 9, .inl (nA dfi))), (aDs, .inl (cyI, 9, .inl (nA dse))), (aDb, .inl (cyI, 9, .inl (nA dsb))), (aDl, .inl (cyI, 3, .inl (nA dld)))] (fun w1 => w1 = [(aN, .inr (1, [.int (nI (d 0)), .int (nI (d 1)), .int (nI (d 2)), .ref aKd, .ref aFi, .ref aSe, .ref aSb, .ref aLd])), (aKd, .inl (cyI, 9, .inl (nA (cpN dkd kd 0 0 9)))), (aFi, .inl (cyI, 9, .inl (nA (cpN dfi fi 0 0 9)))), (aSe, .inl (cyI, 9, .inl (nA (cpN dse se 0 0 9)))), (aSb, .inl (cyI, 9, .inl (nA (cpN dsb sb 0 0 9)))), (aLd, .inl (cyI, 3, .inl (nA (cpN dld ld 0 0 3)))), (aD, .inr (1, [.int (nI (d 0)), .int (nI (d 1)), .int (nI (d 2)), .ref aDk, .ref aDf, .ref aDs, .ref aDb, .ref aDl])), (aDk, .inl (cyI, 9, .inl (nA dkd))), (aDf, .inl (cyI, 9, .inl (nA dfi))), (aDs, .inl (cyI, 9, .inl (nA dse))), (aDb, .inl (cyI, 9, .inl (nA dsb))), (aDl, .inl (cyI, 3, .inl (nA dld)))]) := by
  refine Kv.of (own := RX1) rfl (by decide) (Nat.le_of_ble_eq_true rfl) (fun p0 e0 s0 m0 ar0 be0 me0 cd0 A0 C hr hk hnm hA => ?_)
  refine j_lsub [(0, .ref aN), (1, .ref aD)] [0, 1] rfl ?_
  refine j_aload_n (pc' := 1) C dX1_takeFrom_0 rfl 0 rfl ?_
  refine j_aload_n (pc' := 2) C dX1_takeFrom_1 rfl 1 rfl ?_
  refine j_get (v := .int (nI (d 0))) (pc' := 5) C KX1 6 0 rfl (by decide) fl_X1_9 rfl rfl dX1_takeFrom_2 rfl ?_
  refine j_put (pc' := 8) C [(aN, .inr (1, [.int (nI (d 0)), .int q1, .int q2, .ref aKd, .ref aFi, .ref aSe, .ref aSb, .ref aLd])), (aKd, .inl (cyI, 9, .inl (nA kd))), (aFi, .inl (cyI, 9, .inl (nA fi))), (aSe, .inl (cyI, 9, .inl (nA se))), (aSb, .inl (cyI, 9, .inl (nA sb))), (aLd, .inl (cyI, 3, .inl (nA ld))), (aD, .inr (1, [.int (nI (d 0)), .int (nI (d 1)), .int (nI (d 2)), .ref aDk, .ref aDf, .ref aDs, .ref aDb, .ref aDl])), (aDk, .inl (cyI, 9, .inl (nA dkd))), (aDf, .inl (cyI, 9, .inl (nA dfi))), (aDs, .inl (cyI, 9, .inl (nA dse))), (aDb, .inl (cyI, 9, .inl (nA dsb))), (aDl, .inl (cyI, 3, .inl (nA dld)))] KX1 0 0 rfl (by decide) fl_X1_9 rfl rfl rfl rfl (Nat.le_of_ble_eq_true rfl) dX1_takeFrom_5 rfl rfl ?_
  refine j_aload_n (pc' := 9) C dX1_takeFrom_8 rfl 0 rfl ?_
  refine j_aload_n (pc' := 10) C dX1_takeFrom_9 rfl 1 rfl ?_
  refine j_get (v := .int (nI (d 1))) (pc' := 13) C KX1 6 1 rfl (by decide) fl_X1_31 rfl rfl dX1_takeFrom_10 rfl ?_
  refine j_put (pc' := 16) C [(aN, .inr (1, [.int (nI (d 0)), .int (nI (d 1)), .int q2, .ref aKd, .ref aFi, .ref aSe, .ref aSb, .ref aLd])), (aKd, .inl (cyI, 9, .inl (nA kd))), (aFi, .inl (cyI, 9, .inl (nA fi))), (aSe, .inl (cyI, 9, .inl (nA se))), (aSb, .inl (cyI, 9, .inl (nA sb))), (aLd, .inl (cyI, 3, .inl (nA ld))), (aD, .inr (1, [.int (nI (d 0)), .int (nI (d 1)), .int (nI (d 2)), .ref aDk, .ref aDf, .ref aDs, .ref aDb, .ref aDl])), (aDk, .inl (cyI, 9, .inl (nA dkd))), (aDf, .inl (cyI, 9, .inl (nA dfi))), (aDs, .inl (cyI, 9, .inl (nA dse))), (aDb, .inl (cyI, 9, .inl (nA dsb))), (aDl, .inl (cyI, 3, .inl (nA dld)))] KX1 0 1 rfl (by decide) fl_X1_31 rfl rfl rfl rfl (Nat.le_of_ble_eq_true rfl) dX1_takeFrom_13 rfl rfl ?_
  refine j_aload_n (pc' := 17) C dX1_takeFrom_16 rfl 0 rfl ?_
  refine j_aload_n (pc' := 18) C dX1_takeFrom_17 rfl 1 rfl ?_
  refine j_get (v := .int (nI (d 2))) (pc' := 21) C KX1 6 2 rfl (by decide) fl_X1_34 rfl rfl dX1_takeFrom_18 rfl ?_
  refine j_put (pc' := 24) C [(aN, .inr (1, [.int (nI (d 0)), .int (nI (d 1)), .int (nI (d 2)), .ref aKd, .ref aFi, .ref aSe, .ref aSb, .ref aLd])), (aKd, .inl (cyI, 9, .inl (nA kd))), (aFi, .inl (cyI, 9, .inl (nA fi))), (aSe, .inl (cyI, 9, .inl (nA se))), (aSb, .inl (cyI, 9, .inl (nA sb))), (aLd, .inl (cyI, 3, .inl (nA ld))), (aD, .inr (1, [.int (nI (d 0)), .int (nI (d 1)), .int (nI (d 2)), .ref aDk, .ref aDf, .ref aDs, .ref aDb, .ref aDl])), (aDk, .inl (cyI, 9, .inl (nA dkd))), (aDf, .inl (cyI, 9, .inl (nA dfi))), (aDs, .inl (cyI, 9, .inl (nA dse))), (aDb, .inl (cyI, 9, .inl (nA dsb))), (aDl, .inl (cyI, 3, .inl (nA dld)))] KX1 0 2 rfl (by decide) fl_X1_34 rfl rfl rfl rfl (Nat.le_of_ble_eq_true rfl) dX1_takeFrom_21 rfl rfl ?_
  refine j_aload_n (pc' := 25) C dX1_takeFrom_24 rfl 1 rfl ?_
  refine j_get (v := .ref aDk) (pc' := 28) C KX1 6 3 rfl (by decide) fl_X1_15 rfl rfl dX1_takeFrom_25 rfl ?_
  refine j_iconst (v := (nI 0)) (pc' := 29) C dX1_takeFrom_28 rfl (by decide +kernel) ?_
  refine j_aload_n (pc' := 30) C dX1_takeFrom_29 rfl 0 rfl ?_
  refine j_get (v := .ref aKd) (pc' := 33) C KX1 0 3 rfl (by decide) fl_X1_15 rfl rfl dX1_takeFrom_30 rfl ?_
  refine j_iconst (v := (nI 0)) (pc' := 34) C dX1_takeFrom_33 rfl (by decide +kernel) ?_
  refine j_bipush (v := (nI 9)) (pc' := 36) C dX1_takeFrom_34 rfl (by decide +kernel) ?_
  refine j_copy (pc' := 39) C ml_X1_37 [(aN, .inr (1, [.int (nI (d 0)), .int (nI (d 1)), .int (nI (d 2)), .ref aKd, .ref aFi, .ref aSe, .ref aSb, .ref aLd])), (aKd, .inl (cyI, 9, .inl (nA (cpN dkd kd 0 0 9)))), (aFi, .inl (cyI, 9, .inl (nA fi))), (aSe, .inl (cyI, 9, .inl (nA se))), (aSb, .inl (cyI, 9, .inl (nA sb))), (aLd, .inl (cyI, 3, .inl (nA ld))), (aD, .inr (1, [.int (nI (d 0)), .int (nI (d 1)), .int (nI (d 2)), .ref aDk, .ref aDf, .ref aDs, .ref aDb, .ref aDl])), (aDk, .inl (cyI, 9, .inl (nA dkd))), (aDf, .inl (cyI, 9, .inl (nA dfi))), (aDs, .inl (cyI, 9, .inl (nA dse))), (aDb, .inl (cyI, 9, .inl (nA dsb))), (aDl, .inl (cyI, 3, .inl (nA dld)))] 7 1 rfl rfl (by omega) (by omega) (by omega) (by decide) (by decide +kernel) dX1_takeFrom_36 rfl rfl ?_
  refine j_aload_n (pc' := 40) C dX1_takeFrom_39 rfl 1 rfl ?_
  refine j_get (v := .ref aDf) (pc' := 43) C KX1 6 4 rfl (by decide) fl_X1_19 rfl rfl dX1_takeFrom_40 rfl ?_
  refine j_iconst (v := (nI 0)) (pc' := 44) C dX1_takeFrom_43 rfl (by decide +kernel) ?_
  refine j_aload_n (pc' := 45) C dX1_takeFrom_44 rfl 0 rfl ?_
  refine j_get (v := .ref aFi) (pc' := 48) C KX1 0 4 rfl (by decide) fl_X1_19 rfl rfl dX1_takeFrom_45 rfl ?_
  refine j_iconst (v := (nI 0)) (pc' := 49) C dX1_takeFrom_48 rfl (by decide +kernel) ?_
  refine j_bipush (v := (nI 9)) (pc' := 51) C dX1_takeFrom_49 rfl (by decide +kernel) ?_
  refine j_copy (pc' := 54) C ml_X1_37 [(aN, .inr (1, [.int (nI (d 0)), .int (nI (d 1)), .int (nI (d 2)), .ref aKd, .ref aFi, .ref aSe, .ref aSb, .ref aLd])), (aKd, .inl (cyI, 9, .inl (nA (cpN dkd kd 0 0 9)))), (aFi, .inl (cyI, 9, .inl (nA (cpN dfi fi 0 0 9)))), (aSe, .inl (cyI, 9, .inl (nA se))), (aSb, .inl (cyI, 9, .inl (nA sb))), (aLd, .inl (cyI, 3, .inl (nA ld))), (aD, .inr (1, [.int (nI (d 0)), .int (nI (d 1)), .int (nI (d 2)), .ref aDk, .ref aDf, .ref aDs, .ref aDb, .ref aDl])), (aDk, .inl (cyI, 9, .inl (nA dkd))), (aDf, .inl (cyI, 9, .inl (nA dfi))), (aDs, .inl (cyI, 9, .inl (nA dse))), (aDb, .inl (cyI, 9, .inl (nA dsb))), (aDl, .inl (cyI, 3, .inl (nA dld)))] 8 2 rfl rfl (by omega) (by omega) (by omega) (by decide) (by decide +kernel) dX1_takeFrom_51 rfl rfl ?_
  refine j_aload_n (pc' := 55) C dX1_takeFrom_54 rfl 1 rfl ?_
  refine j_get (v := .ref aDs) (pc' := 58) C KX1 6 5 rfl (by decide) fl_X1_22 rfl rfl dX1_takeFrom_55 rfl ?_
  refine j_iconst (v := (nI 0)) (pc' := 59) C dX1_takeFrom_58 rfl (by decide +kernel) ?_
  refine j_aload_n (pc' := 60) C dX1_takeFrom_59 rfl 0 rfl ?_
  refine j_get (v := .ref aSe) (pc' := 63) C KX1 0 5 rfl (by decide) fl_X1_22 rfl rfl dX1_takeFrom_60 rfl ?_
  refine j_iconst (v := (nI 0)) (pc' := 64) C dX1_takeFrom_63 rfl (by decide +kernel) ?_
  refine j_bipush (v := (nI 9)) (pc' := 66) C dX1_takeFrom_64 rfl (by decide +kernel) ?_
  refine j_copy (pc' := 69) C ml_X1_37 [(aN, .inr (1, [.int (nI (d 0)), .int (nI (d 1)), .int (nI (d 2)), .ref aKd, .ref aFi, .ref aSe, .ref aSb, .ref aLd])), (aKd, .inl (cyI, 9, .inl (nA (cpN dkd kd 0 0 9)))), (aFi, .inl (cyI, 9, .inl (nA (cpN dfi fi 0 0 9)))), (aSe, .inl (cyI, 9, .inl (nA (cpN dse se 0 0 9)))), (aSb, .inl (cyI, 9, .inl (nA sb))), (aLd, .inl (cyI, 3, .inl (nA ld))), (aD, .inr (1, [.int (nI (d 0)), .int (nI (d 1)), .int (nI (d 2)), .ref aDk, .ref aDf, .ref aDs, .ref aDb, .ref aDl])), (aDk, .inl (cyI, 9, .inl (nA dkd))), (aDf, .inl (cyI, 9, .inl (nA dfi))), (aDs, .inl (cyI, 9, .inl (nA dse))), (aDb, .inl (cyI, 9, .inl (nA dsb))), (aDl, .inl (cyI, 3, .inl (nA dld)))] 9 3 rfl rfl (by omega) (by omega) (by omega) (by decide) (by decide +kernel) dX1_takeFrom_66 rfl rfl ?_
  refine j_aload_n (pc' := 70) C dX1_takeFrom_69 rfl 1 rfl ?_
  refine j_get (v := .ref aDb) (pc' := 73) C KX1 6 6 rfl (by decide) fl_X1_25 rfl rfl dX1_takeFrom_70 rfl ?_
  refine j_iconst (v := (nI 0)) (pc' := 74) C dX1_takeFrom_73 rfl (by decide +kernel) ?_
  refine j_aload_n (pc' := 75) C dX1_takeFrom_74 rfl 0 rfl ?_
  refine j_get (v := .ref aSb) (pc' := 78) C KX1 0 6 rfl (by decide) fl_X1_25 rfl rfl dX1_takeFrom_75 rfl ?_
  refine j_iconst (v := (nI 0)) (pc' := 79) C dX1_takeFrom_78 rfl (by decide +kernel) ?_
  refine j_bipush (v := (nI 9)) (pc' := 81) C dX1_takeFrom_79 rfl (by decide +kernel) ?_
  refine j_copy (pc' := 84) C ml_X1_37 [(aN, .inr (1, [.int (nI (d 0)), .int (nI (d 1)), .int (nI (d 2)), .ref aKd, .ref aFi, .ref aSe, .ref aSb, .ref aLd])), (aKd, .inl (cyI, 9, .inl (nA (cpN dkd kd 0 0 9)))), (aFi, .inl (cyI, 9, .inl (nA (cpN dfi fi 0 0 9)))), (aSe, .inl (cyI, 9, .inl (nA (cpN dse se 0 0 9)))), (aSb, .inl (cyI, 9, .inl (nA (cpN dsb sb 0 0 9)))), (aLd, .inl (cyI, 3, .inl (nA ld))), (aD, .inr (1, [.int (nI (d 0)), .int (nI (d 1)), .int (nI (d 2)), .ref aDk, .ref aDf, .ref aDs, .ref aDb, .ref aDl])), (aDk, .inl (cyI, 9, .inl (nA dkd))), (aDf, .inl (cyI, 9, .inl (nA dfi))), (aDs, .inl (cyI, 9, .inl (nA dse))), (aDb, .inl (cyI, 9, .inl (nA dsb))), (aDl, .inl (cyI, 3, .inl (nA dld)))] 10 4 rfl rfl (by omega) (by omega) (by omega) (by decide) (by decide +kernel) dX1_takeFrom_81 rfl rfl ?_
  refine j_aload_n (pc' := 85) C dX1_takeFrom_84 rfl 1 rfl ?_
  refine j_get (v := .ref aDl) (pc' := 88) C KX1 6 7 rfl (by decide) fl_X1_28 rfl rfl dX1_takeFrom_85 rfl ?_
  refine j_iconst (v := (nI 0)) (pc' := 89) C dX1_takeFrom_88 rfl (by decide +kernel) ?_
  refine j_aload_n (pc' := 90) C dX1_takeFrom_89 rfl 0 rfl ?_
  refine j_get (v := .ref aLd) (pc' := 93) C KX1 0 7 rfl (by decide) fl_X1_28 rfl rfl dX1_takeFrom_90 rfl ?_
  refine j_iconst (v := (nI 0)) (pc' := 94) C dX1_takeFrom_93 rfl (by decide +kernel) ?_
  refine j_iconst (v := (nI 3)) (pc' := 95) C dX1_takeFrom_94 rfl (by decide +kernel) ?_
  refine j_copy (pc' := 98) C ml_X1_37 [(aN, .inr (1, [.int (nI (d 0)), .int (nI (d 1)), .int (nI (d 2)), .ref aKd, .ref aFi, .ref aSe, .ref aSb, .ref aLd])), (aKd, .inl (cyI, 9, .inl (nA (cpN dkd kd 0 0 9)))), (aFi, .inl (cyI, 9, .inl (nA (cpN dfi fi 0 0 9)))), (aSe, .inl (cyI, 9, .inl (nA (cpN dse se 0 0 9)))), (aSb, .inl (cyI, 9, .inl (nA (cpN dsb sb 0 0 9)))), (aLd, .inl (cyI, 3, .inl (nA (cpN dld ld 0 0 3)))), (aD, .inr (1, [.int (nI (d 0)), .int (nI (d 1)), .int (nI (d 2)), .ref aDk, .ref aDf, .ref aDs, .ref aDb, .ref aDl])), (aDk, .inl (cyI, 9, .inl (nA dkd))), (aDf, .inl (cyI, 9, .inl (nA dfi))), (aDs, .inl (cyI, 9, .inl (nA dse))), (aDb, .inl (cyI, 9, .inl (nA dsb))), (aDl, .inl (cyI, 3, .inl (nA dld)))] 11 5 rfl rfl (by omega) (by omega) (by omega) (by decide) (by decide +kernel) dX1_takeFrom_95 rfl rfl ?_
  exact j_vret C hr hk hA dX1_takeFrom_98 (rfl)

set_option maxHeartbeats 4000000 in
set_option maxRecDepth 100000 in
theorem c_X4_reset {lch : Launch} {dG : va_G} {cyI cyZ cyO : ClassId} (aO : Nat) (aWi : Nat) (aCu : Nat) (aCb : Nat) (aSk : Nat) (wi : Nat → Nat) (cu : Nat → Nat) (cb : Nat → Nat) (sk : Nat → Nat)  : Kv lch yX4_reset cX4_reset 2 (rmk 1) dG (cyI, cyZ, cyO) [.ref aO] [(aO, .inr (4, [.ref aWi, .ref aCu, .ref aCb, .ref aSk])), (aWi, .inl (cyI, 3, .inl (nA wi))), (aCu, .inl (cyI, 9, .inl (nA cu))), (aCb, .inl (cyI, 9, .inl (nA cb))), (aSk, .inl (cyI, 9, .inl (nA sk)))] (fun w1 => ∃ (wi1 : Nat → Nat), ∃ (cu1 : Nat → Nat), ∃ (cb1 : Nat → Nat), ∃ (sk1 : Nat → Nat), w1 = [(aO, .inr (4, [.ref aWi, .ref aCu, .ref aCb, .ref aSk])), (aWi, .inl (cyI, 3, .inl (nA wi1))), (aCu, .inl (cyI, 9, .inl (nA cu1))), (aCb, .inl (cyI, 9, .inl (nA cb1))), (aSk, .inl (cyI, 9, .inl (nA sk1)))] ∧ RS s0N wi1 cu1 cb1 sk1) := by
  refine Kv.of (own := RX4) rfl (by decide) (Nat.le_of_ble_eq_true rfl) (fun p0 e0 s0 m0 ar0 be0 me0 cd0 A0 C hr hk hnm hA => ?_)
  refine j_lsub [(0, .ref aO)] [0] rfl ?_
  refine j_iconst (v := (nI 0)) (pc' := 1) C dX4_reset_0 rfl (by decide +kernel) ?_
  refine j_istore_n (pc' := 2) C [(1, .int (nI 0)), (0, .ref aO)] dX4_reset_1 rfl (by decide) rfl ?_
  refine j_lsub [(0, .ref aO), (1, .int (nI 0))] [1, 0] rfl ?_
  refine j_loop2 (fun (i : Nat) (y : Nat → Nat) => [(aO, .inr (4, [.ref aWi, .ref aCu, .ref aCb, .ref aSk])), (aWi, .inl (cyI, 3, .inl (nA y))), (aCu, .inl (cyI, 9, .inl (nA cu))), (aCb, .inl (cyI, 9, .inl (nA cb))), (aSk, .inl (cyI, 9, .inl (nA sk)))]) (fun (i : Nat) (y : Nat → Nat) => [(0, .ref aO), (1, .int (nI i))]) (fun (i : Nat) (y : Nat → Nat) => []) (fun (i : Nat) (y : Nat → Nat) => i ≤ 3 ∧ ∀ l, l < i → y l = s0N l) (fun (i : Nat) (y : Nat → Nat) => 3 - i) ?_ 0 wi ?_
  · intro i y hI2 ih2
    obtain ⟨hi, hy⟩ := hI2
    refine j_iload_n (pc' := 3) C dX4_reset_2 rfl 1 rfl ?_
    refine j_iconst (v := (nI 3)) (pc' := 4) C dX4_reset_3 rfl (by decide +kernel) ?_
    refine j_nc_ge (pc' := 7) C 20 dX4_reset_4 (by decide) rfl (by omega) (by omega) (fun c4 => ?_) (fun c4 => ?_)
    · refine j_iconst (v := (nI 0)) (pc' := 21) C dX4_reset_20 rfl (by decide +kernel) ?_
      refine j_istore_n (pc' := 22) C [(1, .int (nI 0)), (0, .ref aO)] dX4_reset_21 rfl (by decide) rfl ?_
      refine j_lsub [(0, .ref aO), (1, .int (nI 0))] [1, 0] rfl ?_
      refine j_loop4 (fun (c : Nat) (y1 : Nat → Nat) (y2 : Nat → Nat) (y3 : Nat → Nat) => [(aO, .inr (4, [.ref aWi, .ref aCu, .ref aCb, .ref aSk])), (aWi, .inl (cyI, 3, .inl (nA y))), (aCu, .inl (cyI, 9, .inl (nA y1))), (aCb, .inl (cyI, 9, .inl (nA y2))), (aSk, .inl (cyI, 9, .inl (nA y3)))]) (fun (c : Nat) (y1 : Nat → Nat) (y2 : Nat → Nat) (y3 : Nat → Nat) => [(0, .ref aO), (1, .int (nI c))]) (fun (c : Nat) (y1 : Nat → Nat) (y2 : Nat → Nat) (y3 : Nat → Nat) => []) (fun (c : Nat) (y1 : Nat → Nat) (y2 : Nat → Nat) (y3 : Nat → Nat) => c ≤ 9 ∧ ∀ b, b < c → y1 b = s0N (3 + b) ∧ y2 b = s0N (12 + b) ∧ y3 b = s0N (21 + b)) (fun (c : Nat) (y1 : Nat → Nat) (y2 : Nat → Nat) (y3 : Nat → Nat) => 9 - c) ?_ 0 cu cb sk ?_
      · intro c y1 y2 y3 hI22 ih22
        obtain ⟨hc, hz⟩ := hI22
        refine j_iload_n (pc' := 23) C dX4_reset_22 rfl 1 rfl ?_
        refine j_bipush (v := (nI 9)) (pc' := 25) C dX4_reset_23 rfl (by decide +kernel) ?_
        refine j_nc_ge (pc' := 28) C 55 dX4_reset_25 (by decide) rfl (by omega) (by omega) (fun c25 => ?_) (fun c25 => ?_)
        · exact j_vret C hr hk hA dX4_reset_55 (⟨_, _, _, _, rfl, fun l hl => hy l (by omega), fun b hb => hz b (by omega)⟩)
        · refine j_aload_n (pc' := 29) C dX4_reset_28 rfl 0 rfl ?_
          refine j_get (v := .ref aCu) (pc' := 32) C KX4 0 1 rfl (by decide) fl_X4_15 rfl rfl dX4_reset_29 rfl ?_
          refine j_iload_n (pc' := 33) C dX4_reset_32 rfl 1 rfl ?_
          refine j_iconst (v := (nI 4)) (pc' := 34) C dX4_reset_33 rfl (by decide +kernel) ?_
          refine j_nast (pc' := 35) C [(aO, .inr (4, [.ref aWi, .ref aCu, .ref aCb, .ref aSk])), (aWi, .inl (cyI, 3, .inl (nA y))), (aCu, .inl (cyI, 9, .inl (nA (uN y1 c 4)))), (aCb, .inl (cyI, 9, .inl (nA y2))), (aSk, .inl (cyI, 9, .inl (nA y3)))] 2 rfl (by omega) (by decide) dX4_reset_34 rfl rfl ?_
          refine j_aload_n (pc' := 36) C dX4_reset_35 rfl 0 rfl ?_
          refine j_get (v := .ref aCb) (pc' := 39) C KX4 0 2 rfl (by decide) fl_X4_18 rfl rfl dX4_reset_36 rfl ?_
          refine j_iload_n (pc' := 40) C dX4_reset_39 rfl 1 rfl ?_
          refine j_iconst (v := (nI 0)) (pc' := 41) C dX4_reset_40 rfl (by decide +kernel) ?_
          refine j_nast (pc' := 42) C [(aO, .inr (4, [.ref aWi, .ref aCu, .ref aCb, .ref aSk])), (aWi, .inl (cyI, 3, .inl (nA y))), (aCu, .inl (cyI, 9, .inl (nA (uN y1 c 4)))), (aCb, .inl (cyI, 9, .inl (nA (uN y2 c 0)))), (aSk, .inl (cyI, 9, .inl (nA y3)))] 3 rfl (by omega) (by decide) dX4_reset_41 rfl rfl ?_
          refine j_aload_n (pc' := 43) C dX4_reset_42 rfl 0 rfl ?_
          refine j_get (v := .ref aSk) (pc' := 46) C KX4 0 3 rfl (by decide) fl_X4_21 rfl rfl dX4_reset_43 rfl ?_
          refine j_iload_n (pc' := 47) C dX4_reset_46 rfl 1 rfl ?_
          refine j_iconst (v := (nI 0)) (pc' := 48) C dX4_reset_47 rfl (by decide +kernel) ?_
          refine j_nast (pc' := 49) C [(aO, .inr (4, [.ref aWi, .ref aCu, .ref aCb, .ref aSk])), (aWi, .inl (cyI, 3, .inl (nA y))), (aCu, .inl (cyI, 9, .inl (nA (uN y1 c 4)))), (aCb, .inl (cyI, 9, .inl (nA (uN y2 c 0)))), (aSk, .inl (cyI, 9, .inl (nA (uN y3 c 0))))] 4 rfl (by omega) (by decide) dX4_reset_48 rfl rfl ?_
          refine j_iinc (v := (nI (c + 1))) (pc' := 52) C [(1, .int (nI (c + 1))), (0, .ref aO)] dX4_reset_49 rfl 1 rfl (inc_n c 1) (by decide) rfl ?_
          refine j_goto C 22 dX4_reset_52 (by decide) ?_
          refine j_lsub [(0, .ref aO), (1, .int (nI (c + 1)))] [1, 0] rfl ?_
          exact ih22 (c + 1) (uN y1 c 4) (uN y2 c 0) (uN y3 c 0) (⟨by omega, fun b hb => by unfold uN; split; (unfold s0N; rw [if_pos (by omega), if_neg (by omega), if_neg (by omega)]; exact ⟨rfl, rfl, rfl⟩); exact hz b (by omega)⟩) (by omega)
      · exact ⟨Nat.zero_le _, fun l hl => absurd hl (by omega)⟩
    · refine j_aload_n (pc' := 8) C dX4_reset_7 rfl 0 rfl ?_
      refine j_get (v := .ref aWi) (pc' := 11) C KX4 0 0 rfl (by decide) fl_X4_9 rfl rfl dX4_reset_8 rfl ?_
      refine j_iload_n (pc' := 12) C dX4_reset_11 rfl 1 rfl ?_
      refine j_iconst (v := (nI 0)) (pc' := 13) C dX4_reset_12 rfl (by decide +kernel) ?_
      refine j_nast (pc' := 14) C [(aO, .inr (4, [.ref aWi, .ref aCu, .ref aCb, .ref aSk])), (aWi, .inl (cyI, 3, .inl (nA (uN y i 0)))), (aCu, .inl (cyI, 9, .inl (nA cu))), (aCb, .inl (cyI, 9, .inl (nA cb))), (aSk, .inl (cyI, 9, .inl (nA sk)))] 1 rfl (by omega) (by decide) dX4_reset_13 rfl rfl ?_
      refine j_iinc (v := (nI (i + 1))) (pc' := 17) C [(1, .int (nI (i + 1))), (0, .ref aO)] dX4_reset_14 rfl 1 rfl (inc_n i 1) (by decide) rfl ?_
      refine j_goto C 2 dX4_reset_17 (by decide) ?_
      refine j_lsub [(0, .ref aO), (1, .int (nI (i + 1)))] [1, 0] rfl ?_
      exact ih2 (i + 1) (uN y i 0) (⟨by omega, fun l hl => by unfold uN; split; (unfold s0N; rw [if_neg (by omega)]); exact hy l (by omega)⟩) (by omega)
  · exact ⟨Nat.zero_le _, fun l hl => absurd hl (by omega)⟩

set_option maxHeartbeats 4000000 in
set_option maxRecDepth 100000 in
theorem c_X4_takeFrom {lch : Launch} {dG : va_G} {cyI cyZ cyO : ClassId} (aO : Nat) (aWi : Nat) (aCu : Nat) (aCb : Nat) (aSk : Nat) (wi : Nat → Nat) (cu : Nat → Nat) (cb : Nat → Nat) (sk : Nat → Nat) (aO0 : Nat) (aWi0 : Nat) (aCu0 : Nat) (aCb0 : Nat) (aSk0 : Nat) (wi0 : Nat → Nat) (cu0 : Nat → Nat) (cb0 : Nat → Nat) (sk0 : Nat → Nat)  : Kv lch yX4_takeFrom cX4_takeFrom 2 (rmk 1) dG (cyI, cyZ, cyO) [.ref aO, .ref aO0] [(aO, .inr (4, [.ref aWi, .ref aCu, .ref aCb, .ref aSk])), (aWi, .inl (cyI, 3, .inl (nA wi))), (aCu, .inl (cyI, 9, .inl (nA cu))), (aCb, .inl (cyI, 9, .inl (nA cb))), (aSk, .inl (cyI, 9, .inl (nA sk))), (aO0, .inr (4, [.ref aWi0, .ref aCu0, .ref aCb0, .ref aSk0])), (aWi0, .inl (cyI, 3, .inl (nA wi0))), (aCu0, .inl (cyI, 9, .inl (nA cu0))), (aCb0, .inl (cyI, 9, .inl (nA cb0))), (aSk0, .inl (cyI, 9, .inl (nA sk0)))] (fun w1 => w1 = [(aO, .inr (4, [.ref aWi, .ref aCu, .ref aCb, .ref aSk])), (aWi, .inl (cyI, 3, .inl (nA (cpN wi0 wi 0 0 3)))), (aCu, .inl (cyI, 9, .inl (nA (cpN cu0 cu 0 0 9)))), (aCb, .inl (cyI, 9, .inl (nA (cpN cb0 cb 0 0 9)))), (aSk, .inl (cyI, 9, .inl (nA (cpN sk0 sk 0 0 9)))), (aO0, .inr (4, [.ref aWi0, .ref aCu0, .ref aCb0, .ref aSk0])), (aWi0, .inl (cyI, 3, .inl (nA wi0))), (aCu0, .inl (cyI, 9, .inl (nA cu0))), (aCb0, .inl (cyI, 9, .inl (nA cb0))), (aSk0, .inl (cyI, 9, .inl (nA sk0)))]) := by
  refine Kv.of (own := RX4) rfl (by decide) (Nat.le_of_ble_eq_true rfl) (fun p0 e0 s0 m0 ar0 be0 me0 cd0 A0 C hr hk hnm hA => ?_)
  refine j_lsub [(0, .ref aO), (1, .ref aO0)] [0, 1] rfl ?_
  refine j_aload_n (pc' := 1) C dX4_takeFrom_0 rfl 1 rfl ?_
  refine j_get (v := .ref aWi0) (pc' := 4) C KX4 5 0 rfl (by decide) fl_X4_9 rfl rfl dX4_takeFrom_1 rfl ?_
  refine j_iconst (v := (nI 0)) (pc' := 5) C dX4_takeFrom_4 rfl (by decide +kernel) ?_
  refine j_aload_n (pc' := 6) C dX4_takeFrom_5 rfl 0 rfl ?_
  refine j_get (v := .ref aWi) (pc' := 9) C KX4 0 0 rfl (by decide) fl_X4_9 rfl rfl dX4_takeFrom_6 rfl ?_
  refine j_iconst (v := (nI 0)) (pc' := 10) C dX4_takeFrom_9 rfl (by decide +kernel) ?_
  refine j_iconst (v := (nI 3)) (pc' := 11) C dX4_takeFrom_10 rfl (by decide +kernel) ?_
  refine j_copy (pc' := 14) C ml_X4_27 [(aO, .inr (4, [.ref aWi, .ref aCu, .ref aCb, .ref aSk])), (aWi, .inl (cyI, 3, .inl (nA (cpN wi0 wi 0 0 3)))), (aCu, .inl (cyI, 9, .inl (nA cu))), (aCb, .inl (cyI, 9, .inl (nA cb))), (aSk, .inl (cyI, 9, .inl (nA sk))), (aO0, .inr (4, [.ref aWi0, .ref aCu0, .ref aCb0, .ref aSk0])), (aWi0, .inl (cyI, 3, .inl (nA wi0))), (aCu0, .inl (cyI, 9, .inl (nA cu0))), (aCb0, .inl (cyI, 9, .inl (nA cb0))), (aSk0, .inl (cyI, 9, .inl (nA sk0)))] 6 1 rfl rfl (by omega) (by omega) (by omega) (by decide) (by decide +kernel) dX4_takeFrom_11 rfl rfl ?_
  refine j_aload_n (pc' := 15) C dX4_takeFrom_14 rfl 1 rfl ?_
  refine j_get (v := .ref aCu0) (pc' := 18) C KX4 5 1 rfl (by decide) fl_X4_15 rfl rfl dX4_takeFrom_15 rfl ?_
  refine j_iconst (v := (nI 0)) (pc' := 19) C dX4_takeFrom_18 rfl (by decide +kernel) ?_
  refine j_aload_n (pc' := 20) C dX4_takeFrom_19 rfl 0 rfl ?_
  refine j_get (v := .ref aCu) (pc' := 23) C KX4 0 1 rfl (by decide) fl_X4_15 rfl rfl dX4_takeFrom_20 rfl ?_
  refine j_iconst (v := (nI 0)) (pc' := 24) C dX4_takeFrom_23 rfl (by decide +kernel) ?_
  refine j_bipush (v := (nI 9)) (pc' := 26) C dX4_takeFrom_24 rfl (by decide +kernel) ?_
  refine j_copy (pc' := 29) C ml_X4_27 [(aO, .inr (4, [.ref aWi, .ref aCu, .ref aCb, .ref aSk])), (aWi, .inl (cyI, 3, .inl (nA (cpN wi0 wi 0 0 3)))), (aCu, .inl (cyI, 9, .inl (nA (cpN cu0 cu 0 0 9)))), (aCb, .inl (cyI, 9, .inl (nA cb))), (aSk, .inl (cyI, 9, .inl (nA sk))), (aO0, .inr (4, [.ref aWi0, .ref aCu0, .ref aCb0, .ref aSk0])), (aWi0, .inl (cyI, 3, .inl (nA wi0))), (aCu0, .inl (cyI, 9, .inl (nA cu0))), (aCb0, .inl (cyI, 9, .inl (nA cb0))), (aSk0, .inl (cyI, 9, .inl (nA sk0)))] 7 2 rfl rfl (by omega) (by omega) (by omega) (by decide) (by decide +kernel) dX4_takeFrom_26 rfl rfl ?_
  refine j_aload_n (pc' := 30) C dX4_takeFrom_29 rfl 1 rfl ?_
  refine j_get (v := .ref aCb0) (pc' := 33) C KX4 5 2 rfl (by decide) fl_X4_18 rfl rfl dX4_takeFrom_30 rfl ?_
  refine j_iconst (v := (nI 0)) (pc' := 34) C dX4_takeFrom_33 rfl (by decide +kernel) ?_
  refine j_aload_n (pc' := 35) C dX4_takeFrom_34 rfl 0 rfl ?_
  refine j_get (v := .ref aCb) (pc' := 38) C KX4 0 2 rfl (by decide) fl_X4_18 rfl rfl dX4_takeFrom_35 rfl ?_
  refine j_iconst (v := (nI 0)) (pc' := 39) C dX4_takeFrom_38 rfl (by decide +kernel) ?_
  refine j_bipush (v := (nI 9)) (pc' := 41) C dX4_takeFrom_39 rfl (by decide +kernel) ?_
  refine j_copy (pc' := 44) C ml_X4_27 [(aO, .inr (4, [.ref aWi, .ref aCu, .ref aCb, .ref aSk])), (aWi, .inl (cyI, 3, .inl (nA (cpN wi0 wi 0 0 3)))), (aCu, .inl (cyI, 9, .inl (nA (cpN cu0 cu 0 0 9)))), (aCb, .inl (cyI, 9, .inl (nA (cpN cb0 cb 0 0 9)))), (aSk, .inl (cyI, 9, .inl (nA sk))), (aO0, .inr (4, [.ref aWi0, .ref aCu0, .ref aCb0, .ref aSk0])), (aWi0, .inl (cyI, 3, .inl (nA wi0))), (aCu0, .inl (cyI, 9, .inl (nA cu0))), (aCb0, .inl (cyI, 9, .inl (nA cb0))), (aSk0, .inl (cyI, 9, .inl (nA sk0)))] 8 3 rfl rfl (by omega) (by omega) (by omega) (by decide) (by decide +kernel) dX4_takeFrom_41 rfl rfl ?_
  refine j_aload_n (pc' := 45) C dX4_takeFrom_44 rfl 1 rfl ?_
  refine j_get (v := .ref aSk0) (pc' := 48) C KX4 5 3 rfl (by decide) fl_X4_21 rfl rfl dX4_takeFrom_45 rfl ?_
  refine j_iconst (v := (nI 0)) (pc' := 49) C dX4_takeFrom_48 rfl (by decide +kernel) ?_
  refine j_aload_n (pc' := 50) C dX4_takeFrom_49 rfl 0 rfl ?_
  refine j_get (v := .ref aSk) (pc' := 53) C KX4 0 3 rfl (by decide) fl_X4_21 rfl rfl dX4_takeFrom_50 rfl ?_
  refine j_iconst (v := (nI 0)) (pc' := 54) C dX4_takeFrom_53 rfl (by decide +kernel) ?_
  refine j_bipush (v := (nI 9)) (pc' := 56) C dX4_takeFrom_54 rfl (by decide +kernel) ?_
  refine j_copy (pc' := 59) C ml_X4_27 [(aO, .inr (4, [.ref aWi, .ref aCu, .ref aCb, .ref aSk])), (aWi, .inl (cyI, 3, .inl (nA (cpN wi0 wi 0 0 3)))), (aCu, .inl (cyI, 9, .inl (nA (cpN cu0 cu 0 0 9)))), (aCb, .inl (cyI, 9, .inl (nA (cpN cb0 cb 0 0 9)))), (aSk, .inl (cyI, 9, .inl (nA (cpN sk0 sk 0 0 9)))), (aO0, .inr (4, [.ref aWi0, .ref aCu0, .ref aCb0, .ref aSk0])), (aWi0, .inl (cyI, 3, .inl (nA wi0))), (aCu0, .inl (cyI, 9, .inl (nA cu0))), (aCb0, .inl (cyI, 9, .inl (nA cb0))), (aSk0, .inl (cyI, 9, .inl (nA sk0)))] 9 4 rfl rfl (by omega) (by omega) (by omega) (by decide) (by decide +kernel) dX4_takeFrom_56 rfl rfl ?_
  exact j_vret C hr hk hA dX4_takeFrom_59 (rfl)

set_option maxHeartbeats 4000000 in
set_option maxRecDepth 100000 in
theorem c_X0_dropOldest {lch : Launch} {dG : va_G} {cyI cyZ cyO : ClassId} (aH : Nat) (un : Nat) (aHs : Nat) (aHw : Nat) (aHv : Nat) (aHb : Nat) (hs : Nat → Nat) (hw : Nat → Nat) (hv : Nat → Nat) (hb : Nat → Nat)  : Kv lch yX0_dropOldest cX0_dropOldest 2 (rmk 1) dG (cyI, cyZ, cyO) [.ref aH] [(aH, .inr (0, [.int (nI un), .ref aHs, .ref aHw, .ref aHv, .ref aHb])), (aHs, .inl (cyI, 10, .inl (nA hs))), (aHw, .inl (cyI, 10, .inl (nA hw))), (aHv, .inl (cyI, 10, .inl (nA hv))), (aHb, .inl (cyI, 10, .inl (nA hb)))] (fun w1 => w1 = [(aH, .inr (0, [.int (nI 9), .ref aHs, .ref aHw, .ref aHv, .ref aHb])), (aHs, .inl (cyI, 10, .inl (nA (cpN hs hs 1 0 9)))), (aHw, .inl (cyI, 10, .inl (nA (cpN hw hw 1 0 9)))), (aHv, .inl (cyI, 10, .inl (nA (cpN hv hv 1 0 9)))), (aHb, .inl (cyI, 10, .inl (nA (cpN hb hb 1 0 9))))]) := by
  refine Kv.of (own := RX0) rfl (by decide) (Nat.le_of_ble_eq_true rfl) (fun p0 e0 s0 m0 ar0 be0 me0 cd0 A0 C hr hk hnm hA => ?_)
  refine j_lsub [(0, .ref aH)] [0] rfl ?_
  refine j_bipush (v := (nI 9)) (pc' := 2) C dX0_dropOldest_0 rfl (by decide +kernel) ?_
  refine j_istore_n (pc' := 3) C [(1, .int (nI 9)), (0, .ref aH)] dX0_dropOldest_2 rfl (by decide) rfl ?_
  refine j_aload_n (pc' := 4) C dX0_dropOldest_3 rfl 1 rfl ?_
  refine j_get (v := .ref aHs) (pc' := 7) C KX0 0 1 rfl (by decide) fl_X0_9 rfl rfl dX0_dropOldest_4 rfl ?_
  refine j_iconst (v := (nI 1)) (pc' := 8) C dX0_dropOldest_7 rfl (by decide +kernel) ?_
  refine j_aload_n (pc' := 9) C dX0_dropOldest_8 rfl 1 rfl ?_
  refine j_get (v := .ref aHs) (pc' := 12) C KX0 0 1 rfl (by decide) fl_X0_9 rfl rfl dX0_dropOldest_9 rfl ?_
  refine j_iconst (v := (nI 0)) (pc' := 13) C dX0_dropOldest_12 rfl (by decide +kernel) ?_
  refine j_iload_n (pc' := 14) C dX0_dropOldest_13 rfl 0 rfl ?_
  refine j_copy (pc' := 17) C ml_X0_45 [(aH, .inr (0, [.int (nI un), .ref aHs, .ref aHw, .ref aHv, .ref aHb])), (aHs, .inl (cyI, 10, .inl (nA (cpN hs hs 1 0 9)))), (aHw, .inl (cyI, 10, .inl (nA hw))), (aHv, .inl (cyI, 10, .inl (nA hv))), (aHb, .inl (cyI, 10, .inl (nA hb)))] 1 1 rfl rfl (by omega) (by omega) (by omega) (by decide) (by decide +kernel) dX0_dropOldest_14 rfl rfl ?_
  refine j_aload_n (pc' := 18) C dX0_dropOldest_17 rfl 1 rfl ?_
  refine j_get (v := .ref aHw) (pc' := 21) C KX0 0 2 rfl (by decide) fl_X0_15 rfl rfl dX0_dropOldest_18 rfl ?_
  refine j_iconst (v := (nI 1)) (pc' := 22) C dX0_dropOldest_21 rfl (by decide +kernel) ?_
  refine j_aload_n (pc' := 23) C dX0_dropOldest_22 rfl 1 rfl ?_
  refine j_get (v := .ref aHw) (pc' := 26) C KX0 0 2 rfl (by decide) fl_X0_15 rfl rfl dX0_dropOldest_23 rfl ?_
  refine j_iconst (v := (nI 0)) (pc' := 27) C dX0_dropOldest_26 rfl (by decide +kernel) ?_
  refine j_iload_n (pc' := 28) C dX0_dropOldest_27 rfl 0 rfl ?_
  refine j_copy (pc' := 31) C ml_X0_45 [(aH, .inr (0, [.int (nI un), .ref aHs, .ref aHw, .ref aHv, .ref aHb])), (aHs, .inl (cyI, 10, .inl (nA (cpN hs hs 1 0 9)))), (aHw, .inl (cyI, 10, .inl (nA (cpN hw hw 1 0 9)))), (aHv, .inl (cyI, 10, .inl (nA hv))), (aHb, .inl (cyI, 10, .inl (nA hb)))] 2 2 rfl rfl (by omega) (by omega) (by omega) (by decide) (by decide +kernel) dX0_dropOldest_28 rfl rfl ?_
  refine j_aload_n (pc' := 32) C dX0_dropOldest_31 rfl 1 rfl ?_
  refine j_get (v := .ref aHv) (pc' := 35) C KX0 0 3 rfl (by decide) fl_X0_18 rfl rfl dX0_dropOldest_32 rfl ?_
  refine j_iconst (v := (nI 1)) (pc' := 36) C dX0_dropOldest_35 rfl (by decide +kernel) ?_
  refine j_aload_n (pc' := 37) C dX0_dropOldest_36 rfl 1 rfl ?_
  refine j_get (v := .ref aHv) (pc' := 40) C KX0 0 3 rfl (by decide) fl_X0_18 rfl rfl dX0_dropOldest_37 rfl ?_
  refine j_iconst (v := (nI 0)) (pc' := 41) C dX0_dropOldest_40 rfl (by decide +kernel) ?_
  refine j_iload_n (pc' := 42) C dX0_dropOldest_41 rfl 0 rfl ?_
  refine j_copy (pc' := 45) C ml_X0_45 [(aH, .inr (0, [.int (nI un), .ref aHs, .ref aHw, .ref aHv, .ref aHb])), (aHs, .inl (cyI, 10, .inl (nA (cpN hs hs 1 0 9)))), (aHw, .inl (cyI, 10, .inl (nA (cpN hw hw 1 0 9)))), (aHv, .inl (cyI, 10, .inl (nA (cpN hv hv 1 0 9)))), (aHb, .inl (cyI, 10, .inl (nA hb)))] 3 3 rfl rfl (by omega) (by omega) (by omega) (by decide) (by decide +kernel) dX0_dropOldest_42 rfl rfl ?_
  refine j_aload_n (pc' := 46) C dX0_dropOldest_45 rfl 1 rfl ?_
  refine j_get (v := .ref aHb) (pc' := 49) C KX0 0 4 rfl (by decide) fl_X0_21 rfl rfl dX0_dropOldest_46 rfl ?_
  refine j_iconst (v := (nI 1)) (pc' := 50) C dX0_dropOldest_49 rfl (by decide +kernel) ?_
  refine j_aload_n (pc' := 51) C dX0_dropOldest_50 rfl 1 rfl ?_
  refine j_get (v := .ref aHb) (pc' := 54) C KX0 0 4 rfl (by decide) fl_X0_21 rfl rfl dX0_dropOldest_51 rfl ?_
  refine j_iconst (v := (nI 0)) (pc' := 55) C dX0_dropOldest_54 rfl (by decide +kernel) ?_
  refine j_iload_n (pc' := 56) C dX0_dropOldest_55 rfl 0 rfl ?_
  refine j_copy (pc' := 59) C ml_X0_45 [(aH, .inr (0, [.int (nI un), .ref aHs, .ref aHw, .ref aHv, .ref aHb])), (aHs, .inl (cyI, 10, .inl (nA (cpN hs hs 1 0 9)))), (aHw, .inl (cyI, 10, .inl (nA (cpN hw hw 1 0 9)))), (aHv, .inl (cyI, 10, .inl (nA (cpN hv hv 1 0 9)))), (aHb, .inl (cyI, 10, .inl (nA (cpN hb hb 1 0 9))))] 4 4 rfl rfl (by omega) (by omega) (by omega) (by decide) (by decide +kernel) dX0_dropOldest_56 rfl rfl ?_
  refine j_aload_n (pc' := 60) C dX0_dropOldest_59 rfl 1 rfl ?_
  refine j_iload_n (pc' := 61) C dX0_dropOldest_60 rfl 0 rfl ?_
  refine j_put (pc' := 64) C [(aH, .inr (0, [.int (nI 9), .ref aHs, .ref aHw, .ref aHv, .ref aHb])), (aHs, .inl (cyI, 10, .inl (nA (cpN hs hs 1 0 9)))), (aHw, .inl (cyI, 10, .inl (nA (cpN hw hw 1 0 9)))), (aHv, .inl (cyI, 10, .inl (nA (cpN hv hv 1 0 9)))), (aHb, .inl (cyI, 10, .inl (nA (cpN hb hb 1 0 9))))] KX0 0 0 rfl (by decide) fl_X0_24 rfl rfl rfl rfl (Nat.le_of_ble_eq_true rfl) dX0_dropOldest_61 rfl rfl ?_
  exact j_vret C hr hk hA dX0_dropOldest_64 (rfl)

set_option maxHeartbeats 4000000 in
set_option maxRecDepth 100000 in
theorem c_X0_note {lch : Launch} {dG : va_G} {cyI cyZ cyO : ClassId} (aH : Nat) (un : Nat) (aHs : Nat) (aHw : Nat) (aHv : Nat) (aHb : Nat) (hs : Nat → Nat) (hw : Nat → Nat) (hv : Nat → Nat) (hb : Nat → Nat) (so : Nat) (wh : Nat) (va : Nat) (vb : Nat) (hn : un ≤ 10) : Kv lch yX0_note cX0_note 5 (rmk 2) dG (cyI, cyZ, cyO) [.ref aH, .int (nI so), .int (nI wh), .int (nI va), .int (nI vb)] [(aH, .inr (0, [.int (nI un), .ref aHs, .ref aHw, .ref aHv, .ref aHb])), (aHs, .inl (cyI, 10, .inl (nA hs))), (aHw, .inl (cyI, 10, .inl (nA hw))), (aHv, .inl (cyI, 10, .inl (nA hv))), (aHb, .inl (cyI, 10, .inl (nA hb)))] (fun w1 => w1 = [(aH, .inr (0, [.int (nI (nN un + 1)), .ref aHs, .ref aHw, .ref aHv, .ref aHb])), (aHs, .inl (cyI, 10, .inl (nA (uN (shN hs un) (nN un) so)))), (aHw, .inl (cyI, 10, .inl (nA (uN (shN hw un) (nN un) wh)))), (aHv, .inl (cyI, 10, .inl (nA (uN (shN hv un) (nN un) va)))), (aHb, .inl (cyI, 10, .inl (nA (uN (shN hb un) (nN un) vb))))]) := by
  refine Kv.of (own := RX0) rfl (by decide) (Nat.le_of_ble_eq_true rfl) (fun p0 e0 s0 m0 ar0 be0 me0 cd0 A0 C hr hk hnm hA => ?_)
  refine j_lsub [(0, .ref aH), (1, .int (nI so)), (2, .int (nI wh)), (3, .int (nI va)), (4, .int (nI vb))] [0, 1, 2, 3, 4] rfl ?_
  refine j_aload_n (pc' := 1) C dX0_note_0 rfl 0 rfl ?_
  refine j_get (v := .int (nI un)) (pc' := 4) C KX0 0 0 rfl (by decide) fl_X0_24 rfl rfl dX0_note_1 rfl ?_
  refine j_bipush (v := (nI 10)) (pc' := 6) C dX0_note_4 rfl (by decide +kernel) ?_
  refine j_nc_lt (pc' := 9) C 13 dX0_note_6 (by decide) rfl (by omega) (by omega) (fun c6 => ?_) (fun c6 => ?_)
  · refine j_aload_n (pc' := 14) C dX0_note_13 rfl 0 rfl ?_
    refine j_get (v := .ref aHs) (pc' := 17) C KX0 0 1 rfl (by decide) fl_X0_9 rfl rfl dX0_note_14 rfl ?_
    refine j_aload_n (pc' := 18) C dX0_note_17 rfl 0 rfl ?_
    refine j_get (v := .int (nI un)) (pc' := 21) C KX0 0 0 rfl (by decide) fl_X0_24 rfl rfl dX0_note_18 rfl ?_
    refine j_iload_n (pc' := 22) C dX0_note_21 rfl 1 rfl ?_
    refine j_nast (pc' := 23) C [(aH, .inr (0, [.int (nI un), .ref aHs, .ref aHw, .ref aHv, .ref aHb])), (aHs, .inl (cyI, 10, .inl (nA (uN hs un so)))), (aHw, .inl (cyI, 10, .inl (nA hw))), (aHv, .inl (cyI, 10, .inl (nA hv))), (aHb, .inl (cyI, 10, .inl (nA hb)))] 1 rfl (by omega) (by decide) dX0_note_22 rfl rfl ?_
    refine j_aload_n (pc' := 24) C dX0_note_23 rfl 0 rfl ?_
    refine j_get (v := .ref aHw) (pc' := 27) C KX0 0 2 rfl (by decide) fl_X0_15 rfl rfl dX0_note_24 rfl ?_
    refine j_aload_n (pc' := 28) C dX0_note_27 rfl 0 rfl ?_
    refine j_get (v := .int (nI un)) (pc' := 31) C KX0 0 0 rfl (by decide) fl_X0_24 rfl rfl dX0_note_28 rfl ?_
    refine j_iload_n (pc' := 32) C dX0_note_31 rfl 2 rfl ?_
    refine j_nast (pc' := 33) C [(aH, .inr (0, [.int (nI un), .ref aHs, .ref aHw, .ref aHv, .ref aHb])), (aHs, .inl (cyI, 10, .inl (nA (uN hs un so)))), (aHw, .inl (cyI, 10, .inl (nA (uN hw un wh)))), (aHv, .inl (cyI, 10, .inl (nA hv))), (aHb, .inl (cyI, 10, .inl (nA hb)))] 2 rfl (by omega) (by decide) dX0_note_32 rfl rfl ?_
    refine j_aload_n (pc' := 34) C dX0_note_33 rfl 0 rfl ?_
    refine j_get (v := .ref aHv) (pc' := 37) C KX0 0 3 rfl (by decide) fl_X0_18 rfl rfl dX0_note_34 rfl ?_
    refine j_aload_n (pc' := 38) C dX0_note_37 rfl 0 rfl ?_
    refine j_get (v := .int (nI un)) (pc' := 41) C KX0 0 0 rfl (by decide) fl_X0_24 rfl rfl dX0_note_38 rfl ?_
    refine j_iload_n (pc' := 42) C dX0_note_41 rfl 3 rfl ?_
    refine j_nast (pc' := 43) C [(aH, .inr (0, [.int (nI un), .ref aHs, .ref aHw, .ref aHv, .ref aHb])), (aHs, .inl (cyI, 10, .inl (nA (uN hs un so)))), (aHw, .inl (cyI, 10, .inl (nA (uN hw un wh)))), (aHv, .inl (cyI, 10, .inl (nA (uN hv un va)))), (aHb, .inl (cyI, 10, .inl (nA hb)))] 3 rfl (by omega) (by decide) dX0_note_42 rfl rfl ?_
    refine j_aload_n (pc' := 44) C dX0_note_43 rfl 0 rfl ?_
    refine j_get (v := .ref aHb) (pc' := 47) C KX0 0 4 rfl (by decide) fl_X0_21 rfl rfl dX0_note_44 rfl ?_
    refine j_aload_n (pc' := 48) C dX0_note_47 rfl 0 rfl ?_
    refine j_get (v := .int (nI un)) (pc' := 51) C KX0 0 0 rfl (by decide) fl_X0_24 rfl rfl dX0_note_48 rfl ?_
    refine j_iload (pc' := 53) C dX0_note_51 rfl 4 rfl ?_
    refine j_nast (pc' := 54) C [(aH, .inr (0, [.int (nI un), .ref aHs, .ref aHw, .ref aHv, .ref aHb])), (aHs, .inl (cyI, 10, .inl (nA (uN hs un so)))), (aHw, .inl (cyI, 10, .inl (nA (uN hw un wh)))), (aHv, .inl (cyI, 10, .inl (nA (uN hv un va)))), (aHb, .inl (cyI, 10, .inl (nA (uN hb un vb))))] 4 rfl (by omega) (by decide) dX0_note_53 rfl rfl ?_
    refine j_aload_n (pc' := 55) C dX0_note_54 rfl 0 rfl ?_
    refine j_dup (pc' := 56) C dX0_note_55 rfl rfl ?_
    refine j_get (v := .int (nI un)) (pc' := 59) C KX0 0 0 rfl (by decide) fl_X0_24 rfl rfl dX0_note_56 rfl ?_
    refine j_iconst (v := (nI 1)) (pc' := 60) C dX0_note_59 rfl (by decide +kernel) ?_
    refine j_iadd (v := (nI (un + 1))) (pc' := 61) C dX0_note_60 rfl (nI_add un 1) ?_
    refine j_put (pc' := 64) C [(aH, .inr (0, [.int (nI (un + 1)), .ref aHs, .ref aHw, .ref aHv, .ref aHb])), (aHs, .inl (cyI, 10, .inl (nA (uN hs un so)))), (aHw, .inl (cyI, 10, .inl (nA (uN hw un wh)))), (aHv, .inl (cyI, 10, .inl (nA (uN hv un va)))), (aHb, .inl (cyI, 10, .inl (nA (uN hb un vb))))] KX0 0 0 rfl (by decide) fl_X0_24 rfl rfl rfl rfl (Nat.le_of_ble_eq_true rfl) dX0_note_61 rfl rfl ?_
    exact j_vret C hr hk hA dX0_note_64 (by unfold shN nN; rw [if_neg (by omega), if_neg (by omega), if_neg (by omega), if_neg (by omega), if_neg (by omega)])
  · refine j_aload_n (pc' := 10) C dX0_note_9 rfl 0 rfl ?_
    refine j_cVv (As := []) (wr := []) (pc' := 13) C (c_X0_dropOldest (aH := aH) (un := un) (aHs := aHs) (aHw := aHw) (aHv := aHv) (aHb := aHb) (hs := hs) (hw := hw) (hv := hv) (hb := hb) ) Y_X0_dropOldest (ml_X0_28) [0, 1, 2, 3, 4] [] rfl rfl rfl rfl (by decide) rfl rfl rfl dX0_note_10 rfl rfl rfl (Nat.le_of_ble_eq_true rfl) ⟨Nat.le_of_ble_eq_true rfl, Nat.le_of_ble_eq_true rfl⟩ ⟨Nat.le_of_ble_eq_true rfl, Nat.le_of_ble_eq_true rfl⟩ ⟨rfl, rfl⟩ (fun w1 hQ => ?_)
    obtain rfl := hQ
    refine j_aload_n (pc' := 14) C dX0_note_13 rfl 0 rfl ?_
    refine j_get (v := .ref aHs) (pc' := 17) C KX0 0 1 rfl (by decide) fl_X0_9 rfl rfl dX0_note_14 rfl ?_
    refine j_aload_n (pc' := 18) C dX0_note_17 rfl 0 rfl ?_
    refine j_get (v := .int (nI 9)) (pc' := 21) C KX0 0 0 rfl (by decide) fl_X0_24 rfl rfl dX0_note_18 rfl ?_
    refine j_iload_n (pc' := 22) C dX0_note_21 rfl 1 rfl ?_
    refine j_nast (pc' := 23) C [(aH, .inr (0, [.int (nI 9), .ref aHs, .ref aHw, .ref aHv, .ref aHb])), (aHs, .inl (cyI, 10, .inl (nA (uN (cpN hs hs 1 0 9) 9 so)))), (aHw, .inl (cyI, 10, .inl (nA (cpN hw hw 1 0 9)))), (aHv, .inl (cyI, 10, .inl (nA (cpN hv hv 1 0 9)))), (aHb, .inl (cyI, 10, .inl (nA (cpN hb hb 1 0 9))))] 1 rfl (by omega) (by decide) dX0_note_22 rfl rfl ?_
    refine j_aload_n (pc' := 24) C dX0_note_23 rfl 0 rfl ?_
    refine j_get (v := .ref aHw) (pc' := 27) C KX0 0 2 rfl (by decide) fl_X0_15 rfl rfl dX0_note_24 rfl ?_
    refine j_aload_n (pc' := 28) C dX0_note_27 rfl 0 rfl ?_
    refine j_get (v := .int (nI 9)) (pc' := 31) C KX0 0 0 rfl (by decide) fl_X0_24 rfl rfl dX0_note_28 rfl ?_
    refine j_iload_n (pc' := 32) C dX0_note_31 rfl 2 rfl ?_
    refine j_nast (pc' := 33) C [(aH, .inr (0, [.int (nI 9), .ref aHs, .ref aHw, .ref aHv, .ref aHb])), (aHs, .inl (cyI, 10, .inl (nA (uN (cpN hs hs 1 0 9) 9 so)))), (aHw, .inl (cyI, 10, .inl (nA (uN (cpN hw hw 1 0 9) 9 wh)))), (aHv, .inl (cyI, 10, .inl (nA (cpN hv hv 1 0 9)))), (aHb, .inl (cyI, 10, .inl (nA (cpN hb hb 1 0 9))))] 2 rfl (by omega) (by decide) dX0_note_32 rfl rfl ?_
    refine j_aload_n (pc' := 34) C dX0_note_33 rfl 0 rfl ?_
    refine j_get (v := .ref aHv) (pc' := 37) C KX0 0 3 rfl (by decide) fl_X0_18 rfl rfl dX0_note_34 rfl ?_
    refine j_aload_n (pc' := 38) C dX0_note_37 rfl 0 rfl ?_
    refine j_get (v := .int (nI 9)) (pc' := 41) C KX0 0 0 rfl (by decide) fl_X0_24 rfl rfl dX0_note_38 rfl ?_
    refine j_iload_n (pc' := 42) C dX0_note_41 rfl 3 rfl ?_
    refine j_nast (pc' := 43) C [(aH, .inr (0, [.int (nI 9), .ref aHs, .ref aHw, .ref aHv, .ref aHb])), (aHs, .inl (cyI, 10, .inl (nA (uN (cpN hs hs 1 0 9) 9 so)))), (aHw, .inl (cyI, 10, .inl (nA (uN (cpN hw hw 1 0 9) 9 wh)))), (aHv, .inl (cyI, 10, .inl (nA (uN (cpN hv hv 1 0 9) 9 va)))), (aHb, .inl (cyI, 10, .inl (nA (cpN hb hb 1 0 9))))] 3 rfl (by omega) (by decide) dX0_note_42 rfl rfl ?_
    refine j_aload_n (pc' := 44) C dX0_note_43 rfl 0 rfl ?_
    refine j_get (v := .ref aHb) (pc' := 47) C KX0 0 4 rfl (by decide) fl_X0_21 rfl rfl dX0_note_44 rfl ?_
    refine j_aload_n (pc' := 48) C dX0_note_47 rfl 0 rfl ?_
    refine j_get (v := .int (nI 9)) (pc' := 51) C KX0 0 0 rfl (by decide) fl_X0_24 rfl rfl dX0_note_48 rfl ?_
    refine j_iload (pc' := 53) C dX0_note_51 rfl 4 rfl ?_
    refine j_nast (pc' := 54) C [(aH, .inr (0, [.int (nI 9), .ref aHs, .ref aHw, .ref aHv, .ref aHb])), (aHs, .inl (cyI, 10, .inl (nA (uN (cpN hs hs 1 0 9) 9 so)))), (aHw, .inl (cyI, 10, .inl (nA (uN (cpN hw hw 1 0 9) 9 wh)))), (aHv, .inl (cyI, 10, .inl (nA (uN (cpN hv hv 1 0 9) 9 va)))), (aHb, .inl (cyI, 10, .inl (nA (uN (cpN hb hb 1 0 9) 9 vb))))] 4 rfl (by omega) (by decide) dX0_note_53 rfl rfl ?_
    refine j_aload_n (pc' := 55) C dX0_note_54 rfl 0 rfl ?_
    refine j_dup (pc' := 56) C dX0_note_55 rfl rfl ?_
    refine j_get (v := .int (nI 9)) (pc' := 59) C KX0 0 0 rfl (by decide) fl_X0_24 rfl rfl dX0_note_56 rfl ?_
    refine j_iconst (v := (nI 1)) (pc' := 60) C dX0_note_59 rfl (by decide +kernel) ?_
    refine j_iadd (v := (nI 10)) (pc' := 61) C dX0_note_60 rfl (by decide +kernel) ?_
    refine j_put (pc' := 64) C [(aH, .inr (0, [.int (nI 10), .ref aHs, .ref aHw, .ref aHv, .ref aHb])), (aHs, .inl (cyI, 10, .inl (nA (uN (cpN hs hs 1 0 9) 9 so)))), (aHw, .inl (cyI, 10, .inl (nA (uN (cpN hw hw 1 0 9) 9 wh)))), (aHv, .inl (cyI, 10, .inl (nA (uN (cpN hv hv 1 0 9) 9 va)))), (aHb, .inl (cyI, 10, .inl (nA (uN (cpN hb hb 1 0 9) 9 vb))))] KX0 0 0 rfl (by decide) fl_X0_24 rfl rfl rfl rfl (Nat.le_of_ble_eq_true rfl) dX0_note_61 rfl rfl ?_
    exact j_vret C hr hk hA dX0_note_64 (by unfold shN nN; rw [if_pos (by omega), if_pos (by omega), if_pos (by omega), if_pos (by omega), if_pos (by omega)])

set_option maxHeartbeats 4000000 in
set_option maxRecDepth 100000 in
theorem c_X0_takeBack {lch : Launch} {dG : va_G} {cyI cyZ cyO : ClassId} (aH : Nat) (un : Nat) (aHs : Nat) (aHw : Nat) (aHv : Nat) (aHb : Nat) (hs : Nat → Nat) (hw : Nat → Nat) (hv : Nat → Nat) (hb : Nat → Nat) (aO : Nat) (aWi : Nat) (aCu : Nat) (aCb : Nat) (aSk : Nat) (wi : Nat → Nat) (cu : Nat → Nat) (cb : Nat → Nat) (sk : Nat → Nat) (hn : 1 ≤ un) (hn2 : un ≤ 10) (hso : hs (un - 1) < 3) (hwb : hw (un - 1) < 9) (hwa : hs (un - 1) = 0 → hw (un - 1) < 3) : Kv lch yX0_takeBack cX0_takeBack 3 (rmk 1) dG (cyI, cyZ, cyO) [.ref aH, .ref aO] [(aH, .inr (0, [.int (nI un), .ref aHs, .ref aHw, .ref aHv, .ref aHb])), (aHs, .inl (cyI, 10, .inl (nA hs))), (aHw, .inl (cyI, 10, .inl (nA hw))), (aHv, .inl (cyI, 10, .inl (nA hv))), (aHb, .inl (cyI, 10, .inl (nA hb))), (aO, .inr (4, [.ref aWi, .ref aCu, .ref aCb, .ref aSk])), (aWi, .inl (cyI, 3, .inl (nA wi))), (aCu, .inl (cyI, 9, .inl (nA cu))), (aCb, .inl (cyI, 9, .inl (nA cb))), (aSk, .inl (cyI, 9, .inl (nA sk)))] (fun w1 => ∃ (wi1 : Nat → Nat), ∃ (cu1 : Nat → Nat), ∃ (cb1 : Nat → Nat), ∃ (sk1 : Nat → Nat), w1 = [(aH, .inr (0, [.int (nI (un - 1)), .ref aHs, .ref aHw, .ref aHv, .ref aHb])), (aHs, .inl (cyI, 10, .inl (nA hs))), (aHw, .inl (cyI, 10, .inl (nA hw))), (aHv, .inl (cyI, 10, .inl (nA hv))), (aHb, .inl (cyI, 10, .inl (nA hb))), (aO, .inr (4, [.ref aWi, .ref aCu, .ref aCb, .ref aSk])), (aWi, .inl (cyI, 3, .inl (nA wi1))), (aCu, .inl (cyI, 9, .inl (nA cu1))), (aCb, .inl (cyI, 9, .inl (nA cb1))), (aSk, .inl (cyI, 9, .inl (nA sk1)))] ∧ TB (hs (un - 1)) (hw (un - 1)) (hv (un - 1)) (hb (un - 1)) wi cu cb sk wi1 cu1 cb1 sk1) := by
  refine Kv.of (own := RX0) rfl (by decide) (Nat.le_of_ble_eq_true rfl) (fun p0 e0 s0 m0 ar0 be0 me0 cd0 A0 C hr hk hnm hA => ?_)
  refine j_lsub [(0, .ref aH), (1, .ref aO)] [0, 1] rfl ?_
  refine j_aload_n (pc' := 1) C dX0_takeBack_0 rfl 0 rfl ?_
  refine j_get (v := .int (nI un)) (pc' := 4) C KX0 0 0 rfl (by decide) fl_X0_24 rfl rfl dX0_takeBack_1 rfl ?_
  refine j_nz_gt (pc' := 7) C 8 dX0_takeBack_4 (by decide) rfl (by omega) (fun c4 => ?_) (fun c4 => ?_)
  · refine j_aload_n (pc' := 9) C dX0_takeBack_8 rfl 0 rfl ?_
    refine j_dup (pc' := 10) C dX0_takeBack_9 rfl rfl ?_
    refine j_get (v := .int (nI un)) (pc' := 13) C KX0 0 0 rfl (by decide) fl_X0_24 rfl rfl dX0_takeBack_10 rfl ?_
    refine j_iconst (v := (nI 1)) (pc' := 14) C dX0_takeBack_13 rfl (by decide +kernel) ?_
    refine j_isub (v := (nI (un - 1))) (pc' := 15) C dX0_takeBack_14 rfl (pk_sub (by omega)) ?_
    refine j_put (pc' := 18) C [(aH, .inr (0, [.int (nI (un - 1)), .ref aHs, .ref aHw, .ref aHv, .ref aHb])), (aHs, .inl (cyI, 10, .inl (nA hs))), (aHw, .inl (cyI, 10, .inl (nA hw))), (aHv, .inl (cyI, 10, .inl (nA hv))), (aHb, .inl (cyI, 10, .inl (nA hb))), (aO, .inr (4, [.ref aWi, .ref aCu, .ref aCb, .ref aSk])), (aWi, .inl (cyI, 3, .inl (nA wi))), (aCu, .inl (cyI, 9, .inl (nA cu))), (aCb, .inl (cyI, 9, .inl (nA cb))), (aSk, .inl (cyI, 9, .inl (nA sk)))] KX0 0 0 rfl (by decide) fl_X0_24 rfl rfl rfl rfl (Nat.le_of_ble_eq_true rfl) dX0_takeBack_15 rfl rfl ?_
    refine j_aload_n (pc' := 19) C dX0_takeBack_18 rfl 0 rfl ?_
    refine j_get (v := .ref aHw) (pc' := 22) C KX0 0 2 rfl (by decide) fl_X0_15 rfl rfl dX0_takeBack_19 rfl ?_
    refine j_aload_n (pc' := 23) C dX0_takeBack_22 rfl 0 rfl ?_
    refine j_get (v := .int (nI (un - 1))) (pc' := 26) C KX0 0 0 rfl (by decide) fl_X0_24 rfl rfl dX0_takeBack_23 rfl ?_
    refine j_nald (pc' := 27) C 2 rfl (by omega) (by decide) dX0_takeBack_26 rfl ?_
    refine j_istore_n (pc' := 28) C [(2, .int (nI (hw (un - 1)))), (0, .ref aH), (1, .ref aO)] dX0_takeBack_27 rfl (by decide) rfl ?_
    refine j_aload_n (pc' := 29) C dX0_takeBack_28 rfl 1 rfl ?_
    refine j_get (v := .ref aHs) (pc' := 32) C KX0 0 1 rfl (by decide) fl_X0_9 rfl rfl dX0_takeBack_29 rfl ?_
    refine j_aload_n (pc' := 33) C dX0_takeBack_32 rfl 1 rfl ?_
    refine j_get (v := .int (nI (un - 1))) (pc' := 36) C KX0 0 0 rfl (by decide) fl_X0_24 rfl rfl dX0_takeBack_33 rfl ?_
    refine j_nald (pc' := 37) C 1 rfl (by omega) (by decide) dX0_takeBack_36 rfl ?_
    by_cases sw37_0 : (hs (un - 1)) = 0
    · refine j_look (off := 27) C 64 dX0_takeBack_37 (by decide +kernel) (by rw [sw37_0]; decide +kernel) (by decide) ?_
      refine j_aload_n (pc' := 65) C dX0_takeBack_64 rfl 2 rfl ?_
      refine j_get (v := .ref aWi) (pc' := 68) C KX4 5 0 rfl (by decide) fl_X0_31 rfl rfl dX0_takeBack_65 rfl ?_
      refine j_iload_n (pc' := 69) C dX0_takeBack_68 rfl 0 rfl ?_
      refine j_aload_n (pc' := 70) C dX0_takeBack_69 rfl 1 rfl ?_
      refine j_get (v := .ref aHv) (pc' := 73) C KX0 0 3 rfl (by decide) fl_X0_18 rfl rfl dX0_takeBack_70 rfl ?_
      refine j_aload_n (pc' := 74) C dX0_takeBack_73 rfl 1 rfl ?_
      refine j_get (v := .int (nI (un - 1))) (pc' := 77) C KX0 0 0 rfl (by decide) fl_X0_24 rfl rfl dX0_takeBack_74 rfl ?_
      refine j_nald (pc' := 78) C 3 rfl (by omega) (by decide) dX0_takeBack_77 rfl ?_
      refine j_nast (pc' := 79) C [(aH, .inr (0, [.int (nI (un - 1)), .ref aHs, .ref aHw, .ref aHv, .ref aHb])), (aHs, .inl (cyI, 10, .inl (nA hs))), (aHw, .inl (cyI, 10, .inl (nA hw))), (aHv, .inl (cyI, 10, .inl (nA hv))), (aHb, .inl (cyI, 10, .inl (nA hb))), (aO, .inr (4, [.ref aWi, .ref aCu, .ref aCb, .ref aSk])), (aWi, .inl (cyI, 3, .inl (nA (uN wi (hw (un - 1)) (hv (un - 1)))))), (aCu, .inl (cyI, 9, .inl (nA cu))), (aCb, .inl (cyI, 9, .inl (nA cb))), (aSk, .inl (cyI, 9, .inl (nA sk)))] 6 rfl (hwa sw37_0) (by decide) dX0_takeBack_78 rfl rfl ?_
      refine j_goto C 130 dX0_takeBack_79 (by decide) ?_
      exact j_vret C hr hk hA dX0_takeBack_130 (⟨_, _, _, _, rfl, Or.inl ⟨sw37_0, rfl, rfl, rfl, rfl⟩⟩)
    by_cases sw37_1 : (hs (un - 1)) = 1
    · refine j_look (off := 45) C 82 dX0_takeBack_37 (by decide +kernel) (by rw [sw37_1]; decide +kernel) (by decide) ?_
      refine j_aload_n (pc' := 83) C dX0_takeBack_82 rfl 2 rfl ?_
      refine j_get (v := .ref aCu) (pc' := 86) C KX4 5 1 rfl (by decide) fl_X0_36 rfl rfl dX0_takeBack_83 rfl ?_
      refine j_iload_n (pc' := 87) C dX0_takeBack_86 rfl 0 rfl ?_
      refine j_aload_n (pc' := 88) C dX0_takeBack_87 rfl 1 rfl ?_
      refine j_get (v := .ref aHv) (pc' := 91) C KX0 0 3 rfl (by decide) fl_X0_18 rfl rfl dX0_takeBack_88 rfl ?_
      refine j_aload_n (pc' := 92) C dX0_takeBack_91 rfl 1 rfl ?_
      refine j_get (v := .int (nI (un - 1))) (pc' := 95) C KX0 0 0 rfl (by decide) fl_X0_24 rfl rfl dX0_takeBack_92 rfl ?_
      refine j_nald (pc' := 96) C 3 rfl (by omega) (by decide) dX0_takeBack_95 rfl ?_
      refine j_nast (pc' := 97) C [(aH, .inr (0, [.int (nI (un - 1)), .ref aHs, .ref aHw, .ref aHv, .ref aHb])), (aHs, .inl (cyI, 10, .inl (nA hs))), (aHw, .inl (cyI, 10, .inl (nA hw))), (aHv, .inl (cyI, 10, .inl (nA hv))), (aHb, .inl (cyI, 10, .inl (nA hb))), (aO, .inr (4, [.ref aWi, .ref aCu, .ref aCb, .ref aSk])), (aWi, .inl (cyI, 3, .inl (nA wi))), (aCu, .inl (cyI, 9, .inl (nA (uN cu (hw (un - 1)) (hv (un - 1)))))), (aCb, .inl (cyI, 9, .inl (nA cb))), (aSk, .inl (cyI, 9, .inl (nA sk)))] 7 rfl (by omega) (by decide) dX0_takeBack_96 rfl rfl ?_
      refine j_aload_n (pc' := 98) C dX0_takeBack_97 rfl 2 rfl ?_
      refine j_get (v := .ref aCb) (pc' := 101) C KX4 5 2 rfl (by decide) fl_X0_39 rfl rfl dX0_takeBack_98 rfl ?_
      refine j_iload_n (pc' := 102) C dX0_takeBack_101 rfl 0 rfl ?_
      refine j_aload_n (pc' := 103) C dX0_takeBack_102 rfl 1 rfl ?_
      refine j_get (v := .ref aHb) (pc' := 106) C KX0 0 4 rfl (by decide) fl_X0_21 rfl rfl dX0_takeBack_103 rfl ?_
      refine j_aload_n (pc' := 107) C dX0_takeBack_106 rfl 1 rfl ?_
      refine j_get (v := .int (nI (un - 1))) (pc' := 110) C KX0 0 0 rfl (by decide) fl_X0_24 rfl rfl dX0_takeBack_107 rfl ?_
      refine j_nald (pc' := 111) C 4 rfl (by omega) (by decide) dX0_takeBack_110 rfl ?_
      refine j_nast (pc' := 112) C [(aH, .inr (0, [.int (nI (un - 1)), .ref aHs, .ref aHw, .ref aHv, .ref aHb])), (aHs, .inl (cyI, 10, .inl (nA hs))), (aHw, .inl (cyI, 10, .inl (nA hw))), (aHv, .inl (cyI, 10, .inl (nA hv))), (aHb, .inl (cyI, 10, .inl (nA hb))), (aO, .inr (4, [.ref aWi, .ref aCu, .ref aCb, .ref aSk])), (aWi, .inl (cyI, 3, .inl (nA wi))), (aCu, .inl (cyI, 9, .inl (nA (uN cu (hw (un - 1)) (hv (un - 1)))))), (aCb, .inl (cyI, 9, .inl (nA (uN cb (hw (un - 1)) (hb (un - 1)))))), (aSk, .inl (cyI, 9, .inl (nA sk)))] 8 rfl (by omega) (by decide) dX0_takeBack_111 rfl rfl ?_
      refine j_goto C 130 dX0_takeBack_112 (by decide) ?_
      exact j_vret C hr hk hA dX0_takeBack_130 (⟨_, _, _, _, rfl, Or.inr (Or.inl ⟨sw37_1, rfl, rfl, rfl, rfl⟩)⟩)
    refine j_look (off := 78) C 115 dX0_takeBack_37 (by decide +kernel) (by rw [show hs (un - 1) = 2 by omega]; decide +kernel) (by decide) ?_
    refine j_aload_n (pc' := 116) C dX0_takeBack_115 rfl 2 rfl ?_
    refine j_get (v := .ref aSk) (pc' := 119) C KX4 5 3 rfl (by decide) fl_X0_42 rfl rfl dX0_takeBack_116 rfl ?_
    refine j_iload_n (pc' := 120) C dX0_takeBack_119 rfl 0 rfl ?_
    refine j_aload_n (pc' := 121) C dX0_takeBack_120 rfl 1 rfl ?_
    refine j_get (v := .ref aHv) (pc' := 124) C KX0 0 3 rfl (by decide) fl_X0_18 rfl rfl dX0_takeBack_121 rfl ?_
    refine j_aload_n (pc' := 125) C dX0_takeBack_124 rfl 1 rfl ?_
    refine j_get (v := .int (nI (un - 1))) (pc' := 128) C KX0 0 0 rfl (by decide) fl_X0_24 rfl rfl dX0_takeBack_125 rfl ?_
    refine j_nald (pc' := 129) C 3 rfl (by omega) (by decide) dX0_takeBack_128 rfl ?_
    refine j_nast (pc' := 130) C [(aH, .inr (0, [.int (nI (un - 1)), .ref aHs, .ref aHw, .ref aHv, .ref aHb])), (aHs, .inl (cyI, 10, .inl (nA hs))), (aHw, .inl (cyI, 10, .inl (nA hw))), (aHv, .inl (cyI, 10, .inl (nA hv))), (aHb, .inl (cyI, 10, .inl (nA hb))), (aO, .inr (4, [.ref aWi, .ref aCu, .ref aCb, .ref aSk])), (aWi, .inl (cyI, 3, .inl (nA wi))), (aCu, .inl (cyI, 9, .inl (nA cu))), (aCb, .inl (cyI, 9, .inl (nA cb))), (aSk, .inl (cyI, 9, .inl (nA (uN sk (hw (un - 1)) (hv (un - 1))))))] 9 rfl (by omega) (by decide) dX0_takeBack_129 rfl rfl ?_
    exact j_vret C hr hk hA dX0_takeBack_130 (⟨_, _, _, _, rfl, Or.inr (Or.inr ⟨by omega, rfl, rfl, rfl, rfl⟩)⟩)
  · exact absurd c4 (by omega)

set_option maxHeartbeats 4000000 in
set_option maxRecDepth 100000 in
theorem c_X3_append {lch : Launch} {dG : va_G} {cyI cyZ cyO : ClassId} (aE : Nat) (sm : Nat) (aEl : Nat) (aEs : Nat) (aEf : Nat) (el : Nat → Nat) (es : Nat → Nat) (ef : Nat → Nat) (l : Nat) (st : Nat) (f : Nat) (hn : sm ≤ 6) : Ki lch yX3_append cX3_append 4 .boolean (rmk 1) dG (cyI, cyZ, cyO) [.ref aE, .int (nI l), .int (nI st), .int (nI f)] [(aE, .inr (3, [.int (nI sm), .ref aEl, .ref aEs, .ref aEf])), (aEl, .inl (cyI, 6, .inl (nA el))), (aEs, .inl (cyI, 6, .inl (nA es))), (aEf, .inl (cyI, 6, .inl (nA ef)))] (fun r w1 => ∃ (el1 : Nat → Nat), ∃ (es1 : Nat → Nat), ∃ (ef1 : Nat → Nat), ∃ (n1 : Nat), ∃ (b : Bool), w1 = [(aE, .inr (3, [.int (nI n1), .ref aEl, .ref aEs, .ref aEf])), (aEl, .inl (cyI, 6, .inl (nA el1))), (aEs, .inl (cyI, 6, .inl (nA es1))), (aEf, .inl (cyI, 6, .inl (nA ef1)))] ∧ r = (bI b) ∧ ((b = false ∧ sm = 6 ∧ el1 = el ∧ es1 = es ∧ ef1 = ef ∧ n1 = sm) ∨ (b = true ∧ sm < 6 ∧ el1 = uN el sm l ∧ es1 = uN es sm st ∧ ef1 = uN ef sm f ∧ n1 = sm + 1))) := by
  refine Ki.of (own := RX3) rfl (by decide) (Nat.le_of_ble_eq_true rfl) (fun p0 e0 s0 m0 ar0 be0 me0 cd0 A0 C hr hk hnm hA => ?_)
  refine j_lsub [(0, .ref aE), (1, .int (nI l)), (2, .int (nI st)), (3, .int (nI f))] [0, 1, 2, 3] rfl ?_
  refine j_aload_n (pc' := 1) C dX3_append_0 rfl 0 rfl ?_
  refine j_get (v := .int (nI sm)) (pc' := 4) C KX3 0 0 rfl (by decide) fl_X3_21 rfl rfl dX3_append_1 rfl ?_
  refine j_bipush (v := (nI 6)) (pc' := 6) C dX3_append_4 rfl (by decide +kernel) ?_
  refine j_nc_lt (pc' := 9) C 11 dX3_append_6 (by decide) rfl (by omega) (by omega) (fun c6 => ?_) (fun c6 => ?_)
  · refine j_aload_n (pc' := 12) C dX3_append_11 rfl 0 rfl ?_
    refine j_get (v := .ref aEl) (pc' := 15) C KX3 0 1 rfl (by decide) fl_X3_9 rfl rfl dX3_append_12 rfl ?_
    refine j_aload_n (pc' := 16) C dX3_append_15 rfl 0 rfl ?_
    refine j_get (v := .int (nI sm)) (pc' := 19) C KX3 0 0 rfl (by decide) fl_X3_21 rfl rfl dX3_append_16 rfl ?_
    refine j_iload_n (pc' := 20) C dX3_append_19 rfl 1 rfl ?_
    refine j_nast (pc' := 21) C [(aE, .inr (3, [.int (nI sm), .ref aEl, .ref aEs, .ref aEf])), (aEl, .inl (cyI, 6, .inl (nA (uN el sm l)))), (aEs, .inl (cyI, 6, .inl (nA es))), (aEf, .inl (cyI, 6, .inl (nA ef)))] 1 rfl (by omega) (by decide) dX3_append_20 rfl rfl ?_
    refine j_aload_n (pc' := 22) C dX3_append_21 rfl 0 rfl ?_
    refine j_get (v := .ref aEs) (pc' := 25) C KX3 0 2 rfl (by decide) fl_X3_15 rfl rfl dX3_append_22 rfl ?_
    refine j_aload_n (pc' := 26) C dX3_append_25 rfl 0 rfl ?_
    refine j_get (v := .int (nI sm)) (pc' := 29) C KX3 0 0 rfl (by decide) fl_X3_21 rfl rfl dX3_append_26 rfl ?_
    refine j_iload_n (pc' := 30) C dX3_append_29 rfl 2 rfl ?_
    refine j_nast (pc' := 31) C [(aE, .inr (3, [.int (nI sm), .ref aEl, .ref aEs, .ref aEf])), (aEl, .inl (cyI, 6, .inl (nA (uN el sm l)))), (aEs, .inl (cyI, 6, .inl (nA (uN es sm st)))), (aEf, .inl (cyI, 6, .inl (nA ef)))] 2 rfl (by omega) (by decide) dX3_append_30 rfl rfl ?_
    refine j_aload_n (pc' := 32) C dX3_append_31 rfl 0 rfl ?_
    refine j_get (v := .ref aEf) (pc' := 35) C KX3 0 3 rfl (by decide) fl_X3_18 rfl rfl dX3_append_32 rfl ?_
    refine j_aload_n (pc' := 36) C dX3_append_35 rfl 0 rfl ?_
    refine j_get (v := .int (nI sm)) (pc' := 39) C KX3 0 0 rfl (by decide) fl_X3_21 rfl rfl dX3_append_36 rfl ?_
    refine j_iload_n (pc' := 40) C dX3_append_39 rfl 3 rfl ?_
    refine j_nast (pc' := 41) C [(aE, .inr (3, [.int (nI sm), .ref aEl, .ref aEs, .ref aEf])), (aEl, .inl (cyI, 6, .inl (nA (uN el sm l)))), (aEs, .inl (cyI, 6, .inl (nA (uN es sm st)))), (aEf, .inl (cyI, 6, .inl (nA (uN ef sm f))))] 3 rfl (by omega) (by decide) dX3_append_40 rfl rfl ?_
    refine j_aload_n (pc' := 42) C dX3_append_41 rfl 0 rfl ?_
    refine j_dup (pc' := 43) C dX3_append_42 rfl rfl ?_
    refine j_get (v := .int (nI sm)) (pc' := 46) C KX3 0 0 rfl (by decide) fl_X3_21 rfl rfl dX3_append_43 rfl ?_
    refine j_iconst (v := (nI 1)) (pc' := 47) C dX3_append_46 rfl (by decide +kernel) ?_
    refine j_iadd (v := (nI (sm + 1))) (pc' := 48) C dX3_append_47 rfl (nI_add sm 1) ?_
    refine j_put (pc' := 51) C [(aE, .inr (3, [.int (nI (sm + 1)), .ref aEl, .ref aEs, .ref aEf])), (aEl, .inl (cyI, 6, .inl (nA (uN el sm l)))), (aEs, .inl (cyI, 6, .inl (nA (uN es sm st)))), (aEf, .inl (cyI, 6, .inl (nA (uN ef sm f))))] KX3 0 0 rfl (by decide) fl_X3_21 rfl rfl rfl rfl (Nat.le_of_ble_eq_true rfl) dX3_append_48 rfl rfl ?_
    refine j_iconst (v := (nI 1)) (pc' := 52) C dX3_append_51 rfl (by decide +kernel) ?_
    refine j_top (bI true) (by decide +kernel) ?_
    exact j_iret C hr hk hA dX3_append_52 (nrw_bI _) (⟨_, _, _, _, _, rfl, rfl, Or.inr ⟨rfl, by omega, rfl, rfl, rfl, rfl⟩⟩)
  · refine j_iconst (v := (nI 0)) (pc' := 10) C dX3_append_9 rfl (by decide +kernel) ?_
    refine j_top (bI false) (by decide +kernel) ?_
    exact j_iret C hr hk hA dX3_append_10 (nrw_bI _) (⟨_, _, _, _, _, rfl, rfl, Or.inl ⟨rfl, by omega, rfl, rfl, rfl, rfl⟩⟩)

set_option maxHeartbeats 4000000 in
set_option maxRecDepth 100000 in
theorem c_X3_agrees {lch : Launch} {dG : va_G} {cyI cyZ cyO : ClassId} (aE : Nat) (sm : Nat) (aEl : Nat) (aEs : Nat) (aEf : Nat) (el : Nat → Nat) (es : Nat → Nat) (ef : Nat → Nat) (aW : Nat) (aSh : Nat) (aN : Nat) (aO : Nat) (aFo : Nat) (aBa : Nat) (aRc : Nat) (gr : Bool) (rc : Nat → Nat) (t : Nat → Nat) (aKd : Nat) (aFi : Nat) (aSe : Nat) (aSb : Nat) (aLd : Nat) (ld : Nat → Nat) (s : Nat → Nat) (hT : WT t) (hld : ∀ l, l < t 2 → ld l = t (39 + l)) (hE : WE t el es ef sm) (hK : RcK rc (fun st => lvR t s st 0 (t 0))) : Ki lch yX3_agrees cX3_agrees 3 .boolean (rmk 2) dG (cyI, cyZ, cyO) [.ref aE, .ref aW] [(aE, .inr (3, [.int (nI sm), .ref aEl, .ref aEs, .ref aEf])), (aEl, .inl (cyI, 6, .inl (nA el))), (aEs, .inl (cyI, 6, .inl (nA es))), (aEf, .inl (cyI, 6, .inl (nA ef))), (aW, .inr (6, [.ref aSh, .ref aN, .ref aO, .ref aFo, .ref aBa, .ref aRc, .int (bI gr)])), (aRc, .inl (cyI, 7, .inl (nA rc))), (aN, .inr (1, [.int (nI (t 0)), .int (nI (t 1)), .int (nI (t 2)), .ref aKd, .ref aFi, .ref aSe, .ref aSb, .ref aLd])), (aLd, .inl (cyI, 3, .inl (nA ld)))] (fun r w1 => w1 = [(aE, .inr (3, [.int (nI sm), .ref aEl, .ref aEs, .ref aEf])), (aEl, .inl (cyI, 6, .inl (nA el))), (aEs, .inl (cyI, 6, .inl (nA es))), (aEf, .inl (cyI, 6, .inl (nA ef))), (aW, .inr (6, [.ref aSh, .ref aN, .ref aO, .ref aFo, .ref aBa, .ref aRc, .int (bI gr)])), (aRc, .inl (cyI, 7, .inl (nA rc))), (aN, .inr (1, [.int (nI (t 0)), .int (nI (t 1)), .int (nI (t 2)), .ref aKd, .ref aFi, .ref aSe, .ref aSb, .ref aLd])), (aLd, .inl (cyI, 3, .inl (nA ld)))] ∧ r = (bI (agB t s el es ef sm))) := by
  have h1 := hT.n
  have h7 := hE.1
  refine Ki.of (own := RX3) rfl (by decide) (Nat.le_of_ble_eq_true rfl) (fun p0 e0 s0 m0 ar0 be0 me0 cd0 A0 C hr hk hnm hA => ?_)
  refine j_lsub [(0, .ref aE), (1, .ref aW)] [0, 1] rfl ?_
  refine j_iconst (v := (nI 0)) (pc' := 1) C dX3_agrees_0 rfl (by decide +kernel) ?_
  refine j_istore_n (pc' := 2) C [(2, .int (nI 0)), (0, .ref aE), (1, .ref aW)] dX3_agrees_1 rfl (by decide) rfl ?_
  refine j_lsub [(0, .ref aE), (1, .ref aW), (2, .int (nI 0))] [1, 2, 0] rfl ?_
  refine j_loop1 (fun (i : Nat) => [(aE, .inr (3, [.int (nI sm), .ref aEl, .ref aEs, .ref aEf])), (aEl, .inl (cyI, 6, .inl (nA el))), (aEs, .inl (cyI, 6, .inl (nA es))), (aEf, .inl (cyI, 6, .inl (nA ef))), (aW, .inr (6, [.ref aSh, .ref aN, .ref aO, .ref aFo, .ref aBa, .ref aRc, .int (bI gr)])), (aRc, .inl (cyI, 7, .inl (nA rc))), (aN, .inr (1, [.int (nI (t 0)), .int (nI (t 1)), .int (nI (t 2)), .ref aKd, .ref aFi, .ref aSe, .ref aSb, .ref aLd])), (aLd, .inl (cyI, 3, .inl (nA ld)))]) (fun (i : Nat) => [(0, .ref aE), (1, .ref aW), (2, .int (nI i))]) (fun (i : Nat) => []) (fun (i : Nat) => i ≤ sm ∧ agB t s el es ef i = true) (fun (i : Nat) => sm - i) ?_ 0 ?_
  · intro i hI2 ih2
    obtain ⟨hi, hb⟩ := hI2
    refine j_iload_n (pc' := 3) C dX3_agrees_2 rfl 2 rfl ?_
    refine j_aload_n (pc' := 4) C dX3_agrees_3 rfl 0 rfl ?_
    refine j_get (v := .int (nI sm)) (pc' := 7) C KX3 0 0 rfl (by decide) fl_X3_21 rfl rfl dX3_agrees_4 rfl ?_
    refine j_nc_ge (pc' := 10) C 46 dX3_agrees_7 (by decide) rfl (by omega) (by omega) (fun c7 => ?_) (fun c7 => ?_)
    · refine j_iconst (v := (nI 1)) (pc' := 47) C dX3_agrees_46 rfl (by decide +kernel) ?_
      refine j_top (bI true) (by decide +kernel) ?_
      exact j_iret C hr hk hA dX3_agrees_47 (nrw_bI _) (⟨rfl, by rw [← show i = sm by omega, hb]⟩)
    · have h6 := hE.2 i c7
      have h5 := hT.l h6.1
      have hbt : (rc (t (39 + el i))).testBit (es i) = fedB t s (el i) (es i) 0 := hK.2 _ (by omega) _ h6.2.1
      refine j_aload_n (pc' := 11) C dX3_agrees_10 rfl 1 rfl ?_
      refine j_aload_n (pc' := 12) C dX3_agrees_11 rfl 0 rfl ?_
      refine j_get (v := .ref aEl) (pc' := 15) C KX3 0 1 rfl (by decide) fl_X3_9 rfl rfl dX3_agrees_12 rfl ?_
      refine j_iload_n (pc' := 16) C dX3_agrees_15 rfl 2 rfl ?_
      refine j_nald (pc' := 17) C 1 rfl (by omega) (by decide) dX3_agrees_16 rfl ?_
      refine j_cVi (As := [.int (nI (el i))]) (wr := [(aE, .inr (3, [.int (nI sm), .ref aEl, .ref aEs, .ref aEf])), (aEl, .inl (cyI, 6, .inl (nA el))), (aEs, .inl (cyI, 6, .inl (nA es))), (aEf, .inl (cyI, 6, .inl (nA ef)))]) (pc' := 20) C (c_X6_fed (aW := aW) (aSh := aSh) (aN := aN) (aO := aO) (aFo := aFo) (aBa := aBa) (aRc := aRc) (gr := gr) (rc := rc) (t := t) (aKd := aKd) (aFi := aFi) (aSe := aSe) (aSb := aSb) (aLd := aLd) (ld := ld) (l := el i) (hT := by first | assumption | omega) (hld := by first | assumption | omega) (hl := by first | assumption | omega)) Y_X6_fed (ml_X3_25) [4, 5, 6, 7] [0, 1, 2, 3] rfl rfl rfl rfl (by decide) rfl rfl rfl dX3_agrees_17 rfl rfl rfl (Nat.le_of_ble_eq_true rfl) ⟨Nat.le_of_ble_eq_true rfl, Nat.le_of_ble_eq_true rfl⟩ ⟨Nat.le_of_ble_eq_true rfl, Nat.le_of_ble_eq_true rfl⟩ ⟨rfl, rfl⟩ (fun r1 w1 hQ => ?_)
      obtain ⟨rfl, rfl⟩ := hQ
      refine j_perm [(aE, .inr (3, [.int (nI sm), .ref aEl, .ref aEs, .ref aEf])), (aEl, .inl (cyI, 6, .inl (nA el))), (aEs, .inl (cyI, 6, .inl (nA es))), (aEf, .inl (cyI, 6, .inl (nA ef))), (aW, .inr (6, [.ref aSh, .ref aN, .ref aO, .ref aFo, .ref aBa, .ref aRc, .int (bI gr)])), (aRc, .inl (cyI, 7, .inl (nA rc))), (aN, .inr (1, [.int (nI (t 0)), .int (nI (t 1)), .int (nI (t 2)), .ref aKd, .ref aFi, .ref aSe, .ref aSb, .ref aLd])), (aLd, .inl (cyI, 3, .inl (nA ld)))] [0, 1, 2, 3, 4, 5, 6, 7] rfl rfl (by decide) ?_
      refine j_aload_n (pc' := 21) C dX3_agrees_20 rfl 0 rfl ?_
      refine j_get (v := .ref aEs) (pc' := 24) C KX3 0 2 rfl (by decide) fl_X3_15 rfl rfl dX3_agrees_21 rfl ?_
      refine j_iload_n (pc' := 25) C dX3_agrees_24 rfl 2 rfl ?_
      refine j_nald (pc' := 26) C 2 rfl (by omega) (by decide) dX3_agrees_25 rfl ?_
      refine j_ishr (v := (nI ((rc (t (39 + (el i)))) >>> (es i)))) (pc' := 27) C dX3_agrees_26 rfl (sh_r (by have := hK.1 (t (39 + el i)) (by omega); omega) (by omega)) ?_
      refine j_iconst (v := (nI 1)) (pc' := 28) C dX3_agrees_27 rfl (by decide +kernel) ?_
      refine j_iand (v := (bI (Nat.testBit (rc (t (39 + (el i)))) (es i)))) (pc' := 29) C dX3_agrees_28 rfl (tb_bit _ _) ?_
      refine j_aload_n (pc' := 30) C dX3_agrees_29 rfl 0 rfl ?_
      refine j_get (v := .ref aEf) (pc' := 33) C KX3 0 3 rfl (by decide) fl_X3_18 rfl rfl dX3_agrees_30 rfl ?_
      refine j_iload_n (pc' := 34) C dX3_agrees_33 rfl 2 rfl ?_
      refine j_nald (pc' := 35) C 3 rfl (by omega) (by decide) dX3_agrees_34 rfl ?_
      refine j_ic_eq (pc' := 38) C 40 dX3_agrees_35 (by decide) rfl (fun c35 => ?_) (fun c35 => ?_)
      · refine j_iinc (v := (nI (i + 1))) (pc' := 43) C [(2, .int (nI (i + 1))), (0, .ref aE), (1, .ref aW)] dX3_agrees_40 rfl 2 rfl (inc_n i 1) (by decide) rfl ?_
        refine j_goto C 2 dX3_agrees_43 (by decide) ?_
        refine j_lsub [(0, .ref aE), (1, .ref aW), (2, .int (nI (i + 1)))] [1, 2, 0] rfl ?_
        exact ih2 (i + 1) (⟨by omega, by rw [agB, hb, Bool.true_and, ← hbt]; exact (bI_n h6.2.2).mp c35⟩) (by omega)
      · refine j_iconst (v := (nI 0)) (pc' := 39) C dX3_agrees_38 rfl (by decide +kernel) ?_
        refine j_top (bI false) (by decide +kernel) ?_
        exact j_iret C hr hk hA dX3_agrees_39 (nrw_bI _) (⟨rfl, by rw [agB_f (i := i + 1) (by rw [agB, hb, Bool.true_and, ← hbt]; exact Bool.eq_false_iff.mpr (fun q9 => c35 ((bI_n h6.2.2).mpr q9))) (by omega)]⟩)
  · exact ⟨Nat.zero_le _, rfl⟩
