set_option maxHeartbeats 4000000 in
set_option maxRecDepth 100000 in
theorem c_X8_isContact {lch : Launch} {dG : va_G} {cyI cyZ cyO : ClassId} (a0 : Nat) (th : Int32) (aX : Nat) (ty : Int32) (sp : Int32) (tk : Int32) (pl : Int32) (va : Int32) (fa : Int32) (aT : Nat) (aD : Nat) (aS : Nat) (aU : Nat) (um : Int32) (aK : Nat) (aI : Nat) (aL : Nat) (aE : Nat) (aF : Nat) (sm : Int32) (aP : Nat) (aW : Nat) (sn : Int32) (aB : Nat) (aM : Nat) (t : Nat → Nat) (v : Int32) (hT : WT t) : Ki lch yX8_isContact cX8_isContact 2 .boolean (rmk 2) dG (cyI, cyZ, cyO) [.ref a0, .int v] [(a0, .inr (8, [.int th, .ref aX, .int ty, .int sp, .int tk, .int pl, .int va, .int fa, .ref aT, .ref aD, .ref aS, .ref aU, .int um, .ref aK, .ref aI, .ref aL, .ref aE, .ref aF, .int sm, .ref aP, .ref aW, .int sn, .ref aB, .ref aM])), (aT, .inl (cyI, 42, .inl (nA t)))] (fun r w1 => w1 = [(a0, .inr (8, [.int th, .ref aX, .int ty, .int sp, .int tk, .int pl, .int va, .int fa, .ref aT, .ref aD, .ref aS, .ref aU, .int um, .ref aK, .ref aI, .ref aL, .ref aE, .ref aF, .int sm, .ref aP, .ref aW, .int sn, .ref aB, .ref aM])), (aT, .inl (cyI, 42, .inl (nA t)))] ∧ r = (bI (inR v (t 1)))) := by
  have h1 := hT.n
  refine Ki.of (own := RX8) rfl (by decide) (Nat.le_of_ble_eq_true rfl) (fun p0 e0 s0 m0 ar0 be0 me0 cd0 A0 C hr hk hnm hA => ?_)
  refine j_lsub [(0, .ref a0), (1, .int v)] [0, 1] rfl ?_
  refine j_iload_n (pc' := 1) C dX8_isContact_0 rfl 1 rfl ?_
  refine j_iconst (v := (nI 0)) (pc' := 2) C dX8_isContact_1 rfl (by decide +kernel) ?_
  refine j_aload_n (pc' := 3) C dX8_isContact_2 rfl 0 rfl ?_
  refine j_get (v := .ref aT) (pc' := 6) C KX8 0 8 rfl (by decide) fl_X8_13 rfl rfl dX8_isContact_3 rfl ?_
  refine j_iconst (v := (nI 1)) (pc' := 7) C dX8_isContact_6 rfl (by decide +kernel) ?_
  refine j_nald (pc' := 8) C 1 rfl (by omega) (by decide) dX8_isContact_7 rfl ?_
  refine j_iconst (v := (nI 1)) (pc' := 9) C dX8_isContact_8 rfl (by decide +kernel) ?_
  refine j_isub (v := ((nI (t 1)) - (nI 1))) (pc' := 10) C dX8_isContact_9 rfl (rfl) ?_
  refine j_cSi (As := [.int v, .int (nI 0), .int ((nI (t 1)) - (nI 1))]) (wr := [(a0, .inr (8, [.int th, .ref aX, .int ty, .int sp, .int tk, .int pl, .int va, .int fa, .ref aT, .ref aD, .ref aS, .ref aU, .int um, .ref aK, .ref aI, .ref aL, .ref aE, .ref aF, .int sm, .ref aP, .ref aW, .int sn, .ref aB, .ref aM])), (aT, .inl (cyI, 42, .inl (nA t)))]) (pc' := 13) C (c_X8_in (x := v) (a := (nI 0)) (b := ((nI (t 1)) - (nI 1))) ) Y_X8_in (ml_X8_63) [] [0, 1] rfl rfl rfl rfl (by decide) dX8_isContact_10 rfl rfl rfl (Nat.le_of_ble_eq_true rfl) ⟨Nat.le_of_ble_eq_true rfl, Nat.le_of_ble_eq_true rfl⟩ ⟨Nat.le_of_ble_eq_true rfl, Nat.le_of_ble_eq_true rfl⟩ ⟨rfl, rfl⟩ (fun r1 w1 hQ => ?_)
  obtain ⟨rfl, rfl⟩ := hQ
  refine j_perm [(a0, .inr (8, [.int th, .ref aX, .int ty, .int sp, .int tk, .int pl, .int va, .int fa, .ref aT, .ref aD, .ref aS, .ref aU, .int um, .ref aK, .ref aI, .ref aL, .ref aE, .ref aF, .int sm, .ref aP, .ref aW, .int sn, .ref aB, .ref aM])), (aT, .inl (cyI, 42, .inl (nA t)))] [0, 1] rfl rfl (by decide) ?_
  exact j_iret C hr hk hA dX8_isContact_13 (nrw_bI _) (⟨rfl, by rw [in_R _ _ (by omega)]⟩)

set_option maxHeartbeats 4000000 in
set_option maxRecDepth 100000 in
theorem c_X8_isLoad {lch : Launch} {dG : va_G} {cyI cyZ cyO : ClassId} (a0 : Nat) (th : Int32) (aX : Nat) (ty : Int32) (sp : Int32) (tk : Int32) (pl : Int32) (va : Int32) (fa : Int32) (aT : Nat) (aD : Nat) (aS : Nat) (aU : Nat) (um : Int32) (aK : Nat) (aI : Nat) (aL : Nat) (aE : Nat) (aF : Nat) (sm : Int32) (aP : Nat) (aW : Nat) (sn : Int32) (aB : Nat) (aM : Nat) (t : Nat → Nat) (v : Int32) (hT : WT t) : Ki lch yX8_isLoad cX8_isLoad 2 .boolean (rmk 2) dG (cyI, cyZ, cyO) [.ref a0, .int v] [(a0, .inr (8, [.int th, .ref aX, .int ty, .int sp, .int tk, .int pl, .int va, .int fa, .ref aT, .ref aD, .ref aS, .ref aU, .int um, .ref aK, .ref aI, .ref aL, .ref aE, .ref aF, .int sm, .ref aP, .ref aW, .int sn, .ref aB, .ref aM])), (aT, .inl (cyI, 42, .inl (nA t)))] (fun r w1 => w1 = [(a0, .inr (8, [.int th, .ref aX, .int ty, .int sp, .int tk, .int pl, .int va, .int fa, .ref aT, .ref aD, .ref aS, .ref aU, .int um, .ref aK, .ref aI, .ref aL, .ref aE, .ref aF, .int sm, .ref aP, .ref aW, .int sn, .ref aB, .ref aM])), (aT, .inl (cyI, 42, .inl (nA t)))] ∧ r = (bI (inR v (t 2)))) := by
  have h1 := hT.n
  refine Ki.of (own := RX8) rfl (by decide) (Nat.le_of_ble_eq_true rfl) (fun p0 e0 s0 m0 ar0 be0 me0 cd0 A0 C hr hk hnm hA => ?_)
  refine j_lsub [(0, .ref a0), (1, .int v)] [0, 1] rfl ?_
  refine j_iload_n (pc' := 1) C dX8_isLoad_0 rfl 1 rfl ?_
  refine j_iconst (v := (nI 0)) (pc' := 2) C dX8_isLoad_1 rfl (by decide +kernel) ?_
  refine j_aload_n (pc' := 3) C dX8_isLoad_2 rfl 0 rfl ?_
  refine j_get (v := .ref aT) (pc' := 6) C KX8 0 8 rfl (by decide) fl_X8_13 rfl rfl dX8_isLoad_3 rfl ?_
  refine j_iconst (v := (nI 2)) (pc' := 7) C dX8_isLoad_6 rfl (by decide +kernel) ?_
  refine j_nald (pc' := 8) C 1 rfl (by omega) (by decide) dX8_isLoad_7 rfl ?_
  refine j_iconst (v := (nI 1)) (pc' := 9) C dX8_isLoad_8 rfl (by decide +kernel) ?_
  refine j_isub (v := ((nI (t 2)) - (nI 1))) (pc' := 10) C dX8_isLoad_9 rfl (rfl) ?_
  refine j_cSi (As := [.int v, .int (nI 0), .int ((nI (t 2)) - (nI 1))]) (wr := [(a0, .inr (8, [.int th, .ref aX, .int ty, .int sp, .int tk, .int pl, .int va, .int fa, .ref aT, .ref aD, .ref aS, .ref aU, .int um, .ref aK, .ref aI, .ref aL, .ref aE, .ref aF, .int sm, .ref aP, .ref aW, .int sn, .ref aB, .ref aM])), (aT, .inl (cyI, 42, .inl (nA t)))]) (pc' := 13) C (c_X8_in (x := v) (a := (nI 0)) (b := ((nI (t 2)) - (nI 1))) ) Y_X8_in (ml_X8_63) [] [0, 1] rfl rfl rfl rfl (by decide) dX8_isLoad_10 rfl rfl rfl (Nat.le_of_ble_eq_true rfl) ⟨Nat.le_of_ble_eq_true rfl, Nat.le_of_ble_eq_true rfl⟩ ⟨Nat.le_of_ble_eq_true rfl, Nat.le_of_ble_eq_true rfl⟩ ⟨rfl, rfl⟩ (fun r1 w1 hQ => ?_)
  obtain ⟨rfl, rfl⟩ := hQ
  refine j_perm [(a0, .inr (8, [.int th, .ref aX, .int ty, .int sp, .int tk, .int pl, .int va, .int fa, .ref aT, .ref aD, .ref aS, .ref aU, .int um, .ref aK, .ref aI, .ref aL, .ref aE, .ref aF, .int sm, .ref aP, .ref aW, .int sn, .ref aB, .ref aM])), (aT, .inl (cyI, 42, .inl (nA t)))] [0, 1] rfl rfl (by decide) ?_
  exact j_iret C hr hk hA dX8_isLoad_13 (nrw_bI _) (⟨rfl, by rw [in_R _ _ (by omega)]⟩)

set_option maxHeartbeats 4000000 in
set_option maxRecDepth 100000 in
theorem c_X8_isState {lch : Launch} {dG : va_G} {cyI cyZ cyO : ClassId} (v : Int32)  : Ki lch yX8_isState cX8_isState 1 .boolean (rmk 2) dG (cyI, cyZ, cyO) [.int v] [] (fun r w1 => w1 = [] ∧ r = (bI (inR v 16))) := by
  refine Ki.of (own := RX8) rfl (by decide) (Nat.le_of_ble_eq_true rfl) (fun p0 e0 s0 m0 ar0 be0 me0 cd0 A0 C hr hk hnm hA => ?_)
  refine j_lsub [(0, .int v)] [0] rfl ?_
  refine j_iload_n (pc' := 1) C dX8_isState_0 rfl 0 rfl ?_
  refine j_iconst (v := (nI 0)) (pc' := 2) C dX8_isState_1 rfl (by decide +kernel) ?_
  refine j_bipush (v := (nI 15)) (pc' := 4) C dX8_isState_2 rfl (by decide +kernel) ?_
  refine j_cSi (As := [.int v, .int (nI 0), .int (nI 15)]) (wr := []) (pc' := 7) C (c_X8_in (x := v) (a := (nI 0)) (b := (nI 15)) ) Y_X8_in (ml_X8_63) [] [] rfl rfl rfl rfl (by decide) dX8_isState_4 rfl rfl rfl (Nat.le_of_ble_eq_true rfl) ⟨Nat.le_of_ble_eq_true rfl, Nat.le_of_ble_eq_true rfl⟩ ⟨Nat.le_of_ble_eq_true rfl, Nat.le_of_ble_eq_true rfl⟩ ⟨rfl, rfl⟩ (fun r1 w1 hQ => ?_)
  obtain ⟨rfl, rfl⟩ := hQ
  exact j_iret C hr hk hA dX8_isState_7 (nrw_bI _) (⟨rfl, by rw [in_R2 _ _ (by omega)]⟩)

set_option maxHeartbeats 4000000 in
set_option maxRecDepth 100000 in
theorem c_X8_type {lch : Launch} {dG : va_G} {cyI cyZ cyO : ClassId} (a0 : Nat) (th : Int32) (aX : Nat) (sp : Int32) (tk : Int32) (pl : Int32) (va : Int32) (fa : Int32) (aT : Nat) (aD : Nat) (aS : Nat) (aU : Nat) (um : Int32) (aK : Nat) (aI : Nat) (aL : Nat) (aE : Nat) (aF : Nat) (sm : Int32) (aP : Nat) (aW : Nat) (sn : Int32) (aB : Nat) (aM : Nat) (x : Nat → Nat) (n : Nat) (v : Int32) (hn : n ≤ 100) : Ki lch yX8_type cX8_type 2 .int (rmk 2) dG (cyI, cyZ, cyO) [.ref a0, .int v] [(a0, .inr (8, [.int th, .ref aX, .int (nI n), .int sp, .int tk, .int pl, .int va, .int fa, .ref aT, .ref aD, .ref aS, .ref aU, .int um, .ref aK, .ref aI, .ref aL, .ref aE, .ref aF, .int sm, .ref aP, .ref aW, .int sn, .ref aB, .ref aM])), (aX, .inl (cyI, 100, .inl (nA x)))] (fun r w1 => ∃ (x1 : Nat → Nat), ∃ (n1 : Nat), w1 = [(a0, .inr (8, [.int (nI 0), .ref aX, .int (nI n1), .int sp, .int tk, .int pl, .int va, .int fa, .ref aT, .ref aD, .ref aS, .ref aU, .int um, .ref aK, .ref aI, .ref aL, .ref aE, .ref aF, .int sm, .ref aP, .ref aW, .int sn, .ref aB, .ref aM])), (aX, .inl (cyI, 100, .inl (nA x1)))] ∧ (r, x1, n1) = tyQ x n v) := by
  refine Ki.of (own := RX8) rfl (by decide) (Nat.le_of_ble_eq_true rfl) (fun p0 e0 s0 m0 ar0 be0 me0 cd0 A0 C hr hk hnm hA => ?_)
  refine j_lsub [(0, .ref a0), (1, .int v)] [0, 1] rfl ?_
  refine j_aload_n (pc' := 1) C dX8_type_0 rfl 0 rfl ?_
  refine j_iconst (v := (nI 0)) (pc' := 2) C dX8_type_1 rfl (by decide +kernel) ?_
  refine j_put (pc' := 5) C [(a0, .inr (8, [.int (nI 0), .ref aX, .int (nI n), .int sp, .int tk, .int pl, .int va, .int fa, .ref aT, .ref aD, .ref aS, .ref aU, .int um, .ref aK, .ref aI, .ref aL, .ref aE, .ref aF, .int sm, .ref aP, .ref aW, .int sn, .ref aB, .ref aM])), (aX, .inl (cyI, 100, .inl (nA x)))] KX8 0 0 rfl (by decide) fl_X8_59 rfl rfl rfl rfl (Nat.le_of_ble_eq_true rfl) dX8_type_2 rfl rfl ?_
  refine j_iload_n (pc' := 6) C dX8_type_5 rfl 1 rfl ?_
  refine j_iconst (v := (nI 0)) (pc' := 7) C dX8_type_6 rfl (by decide +kernel) ?_
  refine j_sipush (v := (nI 255)) (pc' := 10) C dX8_type_7 rfl (by decide +kernel) ?_
  refine j_cSi (As := [.int v, .int (nI 0), .int (nI 255)]) (wr := [(a0, .inr (8, [.int (nI 0), .ref aX, .int (nI n), .int sp, .int tk, .int pl, .int va, .int fa, .ref aT, .ref aD, .ref aS, .ref aU, .int um, .ref aK, .ref aI, .ref aL, .ref aE, .ref aF, .int sm, .ref aP, .ref aW, .int sn, .ref aB, .ref aM])), (aX, .inl (cyI, 100, .inl (nA x)))]) (pc' := 13) C (c_X8_in (x := v) (a := (nI 0)) (b := (nI 255)) ) Y_X8_in (ml_X8_63) [] [0, 1] rfl rfl rfl rfl (by decide) dX8_type_10 rfl rfl rfl (Nat.le_of_ble_eq_true rfl) ⟨Nat.le_of_ble_eq_true rfl, Nat.le_of_ble_eq_true rfl⟩ ⟨Nat.le_of_ble_eq_true rfl, Nat.le_of_ble_eq_true rfl⟩ ⟨rfl, rfl⟩ (fun r1 w1 hQ => ?_)
  obtain ⟨rfl, rfl⟩ := hQ
  refine j_perm [(a0, .inr (8, [.int (nI 0), .ref aX, .int (nI n), .int sp, .int tk, .int pl, .int va, .int fa, .ref aT, .ref aD, .ref aS, .ref aU, .int um, .ref aK, .ref aI, .ref aL, .ref aE, .ref aF, .int sm, .ref aP, .ref aW, .int sn, .ref aB, .ref aM])), (aX, .inl (cyI, 100, .inl (nA x)))] [0, 1] rfl rfl (by decide) ?_
  refine j_b_ne (pc' := 16) C 18 dX8_type_13 (by decide) rfl (fun c13 => ?_) (fun c13 => ?_)
  · rw [in_R2 _ _ (by omega)] at c13
    obtain ⟨j, hj, rfl⟩ := inR_t c13 (by omega)
    refine j_aload_n (pc' := 19) C dX8_type_18 rfl 0 rfl ?_
    refine j_get (v := .int (nI n)) (pc' := 22) C KX8 0 2 rfl (by decide) fl_X8_67 rfl rfl dX8_type_19 rfl ?_
    refine j_bipush (v := (nI 100)) (pc' := 24) C dX8_type_22 rfl (by decide +kernel) ?_
    refine j_nc_ne (pc' := 27) C 30 dX8_type_24 (by decide) rfl (by omega) (by omega) (fun c24 => ?_) (fun c24 => ?_)
    · refine j_aload_n (pc' := 31) C dX8_type_30 rfl 0 rfl ?_
      refine j_get (v := .ref aX) (pc' := 34) C KX8 0 1 rfl (by decide) fl_X8_7 rfl rfl dX8_type_31 rfl ?_
      refine j_aload_n (pc' := 35) C dX8_type_34 rfl 0 rfl ?_
      refine j_get (v := .int (nI n)) (pc' := 38) C KX8 0 2 rfl (by decide) fl_X8_67 rfl rfl dX8_type_35 rfl ?_
      refine j_iload_n (pc' := 39) C dX8_type_38 rfl 1 rfl ?_
      refine j_nast (pc' := 40) C [(a0, .inr (8, [.int (nI 0), .ref aX, .int (nI n), .int sp, .int tk, .int pl, .int va, .int fa, .ref aT, .ref aD, .ref aS, .ref aU, .int um, .ref aK, .ref aI, .ref aL, .ref aE, .ref aF, .int sm, .ref aP, .ref aW, .int sn, .ref aB, .ref aM])), (aX, .inl (cyI, 100, .inl (nA (uN x n j))))] 1 rfl (by omega) (by decide) dX8_type_39 rfl rfl ?_
      refine j_aload_n (pc' := 41) C dX8_type_40 rfl 0 rfl ?_
      refine j_dup (pc' := 42) C dX8_type_41 rfl rfl ?_
      refine j_get (v := .int (nI n)) (pc' := 45) C KX8 0 2 rfl (by decide) fl_X8_67 rfl rfl dX8_type_42 rfl ?_
      refine j_iconst (v := (nI 1)) (pc' := 46) C dX8_type_45 rfl (by decide +kernel) ?_
      refine j_iadd (v := (nI (n + 1))) (pc' := 47) C dX8_type_46 rfl (nI_add n 1) ?_
      refine j_put (pc' := 50) C [(a0, .inr (8, [.int (nI 0), .ref aX, .int (nI (n + 1)), .int sp, .int tk, .int pl, .int va, .int fa, .ref aT, .ref aD, .ref aS, .ref aU, .int um, .ref aK, .ref aI, .ref aL, .ref aE, .ref aF, .int sm, .ref aP, .ref aW, .int sn, .ref aB, .ref aM])), (aX, .inl (cyI, 100, .inl (nA (uN x n j))))] KX8 0 2 rfl (by decide) fl_X8_67 rfl rfl rfl rfl (Nat.le_of_ble_eq_true rfl) dX8_type_47 rfl rfl ?_
      refine j_aload_n (pc' := 51) C dX8_type_50 rfl 0 rfl ?_
      refine j_get (v := .int (nI (n + 1))) (pc' := 54) C KX8 0 2 rfl (by decide) fl_X8_67 rfl rfl dX8_type_51 rfl ?_
      exact j_iret C hr hk hA dX8_type_54 (rfl) (⟨_, _, rfl, by unfold tyQ; rw [if_neg (by simp [c13]), if_neg c24, nI_clamp (by omega)]⟩)
    · refine j_bipush (v := (-3)) (pc' := 29) C dX8_type_27 rfl (by decide +kernel) ?_
      exact j_iret C hr hk hA dX8_type_29 (rfl) (⟨x, n, rfl, by unfold tyQ; rw [if_neg (by simp [c13]), if_pos c24]⟩)
  · rw [in_R2 _ _ (by omega)] at c13
    refine j_iconst (v := (-1)) (pc' := 17) C dX8_type_16 rfl (by decide +kernel) ?_
    exact j_iret C hr hk hA dX8_type_17 (rfl) (⟨x, n, rfl, by unfold tyQ; rw [if_pos c13]⟩)

set_option maxHeartbeats 4000000 in
set_option maxRecDepth 100000 in
theorem c_X8_clear {lch : Launch} {dG : va_G} {cyI cyZ cyO : ClassId} (a0 : Nat) (th : Int32) (aX : Nat) (sp : Int32) (tk : Int32) (pl : Int32) (va : Int32) (fa : Int32) (aT : Nat) (aD : Nat) (aS : Nat) (aU : Nat) (um : Int32) (aK : Nat) (aI : Nat) (aL : Nat) (aE : Nat) (aF : Nat) (sm : Int32) (aP : Nat) (aW : Nat) (sn : Int32) (aB : Nat) (aM : Nat) (n : Nat)  : Ki lch yX8_clear cX8_clear 2 .int (rmk 1) dG (cyI, cyZ, cyO) [.ref a0] [(a0, .inr (8, [.int th, .ref aX, .int (nI n), .int sp, .int tk, .int pl, .int va, .int fa, .ref aT, .ref aD, .ref aS, .ref aU, .int um, .ref aK, .ref aI, .ref aL, .ref aE, .ref aF, .int sm, .ref aP, .ref aW, .int sn, .ref aB, .ref aM]))] (fun r w1 => w1 = [(a0, .inr (8, [.int (nI 0), .ref aX, .int (nI 0), .int sp, .int tk, .int pl, .int va, .int fa, .ref aT, .ref aD, .ref aS, .ref aU, .int um, .ref aK, .ref aI, .ref aL, .ref aE, .ref aF, .int sm, .ref aP, .ref aW, .int sn, .ref aB, .ref aM]))] ∧ r = (nI n)) := by
  refine Ki.of (own := RX8) rfl (by decide) (Nat.le_of_ble_eq_true rfl) (fun p0 e0 s0 m0 ar0 be0 me0 cd0 A0 C hr hk hnm hA => ?_)
  refine j_lsub [(0, .ref a0)] [0] rfl ?_
  refine j_aload_n (pc' := 1) C dX8_clear_0 rfl 0 rfl ?_
  refine j_iconst (v := (nI 0)) (pc' := 2) C dX8_clear_1 rfl (by decide +kernel) ?_
  refine j_put (pc' := 5) C [(a0, .inr (8, [.int (nI 0), .ref aX, .int (nI n), .int sp, .int tk, .int pl, .int va, .int fa, .ref aT, .ref aD, .ref aS, .ref aU, .int um, .ref aK, .ref aI, .ref aL, .ref aE, .ref aF, .int sm, .ref aP, .ref aW, .int sn, .ref aB, .ref aM]))] KX8 0 0 rfl (by decide) fl_X8_59 rfl rfl rfl rfl (Nat.le_of_ble_eq_true rfl) dX8_clear_2 rfl rfl ?_
  refine j_aload_n (pc' := 6) C dX8_clear_5 rfl 0 rfl ?_
  refine j_get (v := .int (nI n)) (pc' := 9) C KX8 0 2 rfl (by decide) fl_X8_67 rfl rfl dX8_clear_6 rfl ?_
  refine j_istore_n (pc' := 10) C [(1, .int (nI n)), (0, .ref a0)] dX8_clear_9 rfl (by decide) rfl ?_
  refine j_aload_n (pc' := 11) C dX8_clear_10 rfl 1 rfl ?_
  refine j_iconst (v := (nI 0)) (pc' := 12) C dX8_clear_11 rfl (by decide +kernel) ?_
  refine j_put (pc' := 15) C [(a0, .inr (8, [.int (nI 0), .ref aX, .int (nI 0), .int sp, .int tk, .int pl, .int va, .int fa, .ref aT, .ref aD, .ref aS, .ref aU, .int um, .ref aK, .ref aI, .ref aL, .ref aE, .ref aF, .int sm, .ref aP, .ref aW, .int sn, .ref aB, .ref aM]))] KX8 0 2 rfl (by decide) fl_X8_67 rfl rfl rfl rfl (Nat.le_of_ble_eq_true rfl) dX8_clear_12 rfl rfl ?_
  refine j_iload_n (pc' := 16) C dX8_clear_15 rfl 0 rfl ?_
  exact j_iret C hr hk hA dX8_clear_16 (rfl) (⟨rfl, rfl⟩)

set_option maxHeartbeats 4000000 in
set_option maxRecDepth 100000 in
theorem c_X8_contact {lch : Launch} {dG : va_G} {cyI cyZ cyO : ClassId} (a0 : Nat) (th : Int32) (aX : Nat) (ty : Int32) (sp : Int32) (tk : Int32) (pl : Int32) (va : Int32) (fa : Int32) (aT : Nat) (aD : Nat) (aS : Nat) (aU : Nat) (um : Int32) (aK : Nat) (aI : Nat) (aL : Nat) (aE : Nat) (aF : Nat) (sm : Int32) (aP : Nat) (aW : Nat) (sn : Int32) (aB : Nat) (aM : Nat) (t : Nat → Nat) (s : Nat → Nat) (cc : Int32) (w : Int32) (hT : WT t) (hS : WS s) : Ki lch yX8_contact cX8_contact 3 .int (rmk 3) dG (cyI, cyZ, cyO) [.ref a0, .int cc, .int w] [(a0, .inr (8, [.int th, .ref aX, .int ty, .int sp, .int tk, .int pl, .int va, .int fa, .ref aT, .ref aD, .ref aS, .ref aU, .int um, .ref aK, .ref aI, .ref aL, .ref aE, .ref aF, .int sm, .ref aP, .ref aW, .int sn, .ref aB, .ref aM])), (aT, .inl (cyI, 42, .inl (nA t))), (aS, .inl (cyI, 30, .inl (nA s)))] (fun r w1 => w1 = [(a0, .inr (8, [.int (nI 0), .ref aX, .int ty, .int sp, .int tk, .int pl, .int va, .int fa, .ref aT, .ref aD, .ref aS, .ref aU, .int um, .ref aK, .ref aI, .ref aL, .ref aE, .ref aF, .int sm, .ref aP, .ref aW, .int sn, .ref aB, .ref aM])), (aT, .inl (cyI, 42, .inl (nA t))), (aS, .inl (cyI, 30, .inl (nA s)))] ∧ r = (ctQ t s cc w)) := by
  have h1 := hT.n
  refine Ki.of (own := RX8) rfl (by decide) (Nat.le_of_ble_eq_true rfl) (fun p0 e0 s0 m0 ar0 be0 me0 cd0 A0 C hr hk hnm hA => ?_)
  refine j_lsub [(0, .ref a0), (1, .int cc), (2, .int w)] [0, 1, 2] rfl ?_
  refine j_aload_n (pc' := 1) C dX8_contact_0 rfl 0 rfl ?_
  refine j_iconst (v := (nI 0)) (pc' := 2) C dX8_contact_1 rfl (by decide +kernel) ?_
  refine j_put (pc' := 5) C [(a0, .inr (8, [.int (nI 0), .ref aX, .int ty, .int sp, .int tk, .int pl, .int va, .int fa, .ref aT, .ref aD, .ref aS, .ref aU, .int um, .ref aK, .ref aI, .ref aL, .ref aE, .ref aF, .int sm, .ref aP, .ref aW, .int sn, .ref aB, .ref aM])), (aT, .inl (cyI, 42, .inl (nA t))), (aS, .inl (cyI, 30, .inl (nA s)))] KX8 0 0 rfl (by decide) fl_X8_59 rfl rfl rfl rfl (Nat.le_of_ble_eq_true rfl) dX8_contact_2 rfl rfl ?_
  refine j_aload_n (pc' := 6) C dX8_contact_5 rfl 0 rfl ?_
  refine j_iload_n (pc' := 7) C dX8_contact_6 rfl 1 rfl ?_
  refine j_cVi (As := [.int cc]) (wr := [(aS, .inl (cyI, 30, .inl (nA s)))]) (pc' := 10) C (c_X8_isContact (a0 := a0) (th := (nI 0)) (aX := aX) (ty := ty) (sp := sp) (tk := tk) (pl := pl) (va := va) (fa := fa) (aT := aT) (aD := aD) (aS := aS) (aU := aU) (um := um) (aK := aK) (aI := aI) (aL := aL) (aE := aE) (aF := aF) (sm := sm) (aP := aP) (aW := aW) (sn := sn) (aB := aB) (aM := aM) (t := t) (v := cc) (hT := by first | assumption | omega)) Y_X8_isContact (ml_X8_147) [0, 1] [2] rfl rfl rfl rfl (by decide) rfl rfl rfl dX8_contact_7 rfl rfl rfl (Nat.le_of_ble_eq_true rfl) ⟨Nat.le_of_ble_eq_true rfl, Nat.le_of_ble_eq_true rfl⟩ ⟨Nat.le_of_ble_eq_true rfl, Nat.le_of_ble_eq_true rfl⟩ ⟨rfl, rfl⟩ (fun r1 w1 hQ => ?_)
  obtain ⟨rfl, rfl⟩ := hQ
  refine j_perm [(a0, .inr (8, [.int (nI 0), .ref aX, .int ty, .int sp, .int tk, .int pl, .int va, .int fa, .ref aT, .ref aD, .ref aS, .ref aU, .int um, .ref aK, .ref aI, .ref aL, .ref aE, .ref aF, .int sm, .ref aP, .ref aW, .int sn, .ref aB, .ref aM])), (aT, .inl (cyI, 42, .inl (nA t))), (aS, .inl (cyI, 30, .inl (nA s)))] [1, 2, 0] rfl rfl (by decide) ?_
  refine j_b_eq (pc' := 13) C 23 dX8_contact_10 (by decide) rfl (fun c10 => ?_) (fun c10 => ?_)
  · refine j_iconst (v := (-1)) (pc' := 24) C dX8_contact_23 rfl (by decide +kernel) ?_
    exact j_iret C hr hk hA dX8_contact_24 (rfl) (⟨rfl, by unfold ctQ; rw [if_pos c10]⟩)
  · obtain ⟨j, hj, rfl⟩ := inR_t c10 (by omega)
    have h3 := hS.c (c := j) (by omega)
    refine j_iload_n (pc' := 14) C dX8_contact_13 rfl 2 rfl ?_
    refine j_iconst (v := (nI 0)) (pc' := 15) C dX8_contact_14 rfl (by decide +kernel) ?_
    refine j_bipush (v := (nI 6)) (pc' := 17) C dX8_contact_15 rfl (by decide +kernel) ?_
    refine j_cSi (As := [.int w, .int (nI 0), .int (nI 6)]) (wr := [(a0, .inr (8, [.int (nI 0), .ref aX, .int ty, .int sp, .int tk, .int pl, .int va, .int fa, .ref aT, .ref aD, .ref aS, .ref aU, .int um, .ref aK, .ref aI, .ref aL, .ref aE, .ref aF, .int sm, .ref aP, .ref aW, .int sn, .ref aB, .ref aM])), (aT, .inl (cyI, 42, .inl (nA t))), (aS, .inl (cyI, 30, .inl (nA s)))]) (pc' := 20) C (c_X8_in (x := w) (a := (nI 0)) (b := (nI 6)) ) Y_X8_in (ml_X8_63) [] [0, 1, 2] rfl rfl rfl rfl (by decide) dX8_contact_17 rfl rfl rfl (Nat.le_of_ble_eq_true rfl) ⟨Nat.le_of_ble_eq_true rfl, Nat.le_of_ble_eq_true rfl⟩ ⟨Nat.le_of_ble_eq_true rfl, Nat.le_of_ble_eq_true rfl⟩ ⟨rfl, rfl⟩ (fun r2 w1 hQ => ?_)
    obtain ⟨rfl, rfl⟩ := hQ
    refine j_perm [(a0, .inr (8, [.int (nI 0), .ref aX, .int ty, .int sp, .int tk, .int pl, .int va, .int fa, .ref aT, .ref aD, .ref aS, .ref aU, .int um, .ref aK, .ref aI, .ref aL, .ref aE, .ref aF, .int sm, .ref aP, .ref aW, .int sn, .ref aB, .ref aM])), (aT, .inl (cyI, 42, .inl (nA t))), (aS, .inl (cyI, 30, .inl (nA s)))] [0, 1, 2] rfl rfl (by decide) ?_
    refine j_b_ne (pc' := 23) C 25 dX8_contact_20 (by decide) rfl (fun c20 => ?_) (fun c20 => ?_)
    · rw [in_R2 _ _ (by omega)] at c20
      obtain ⟨q, hq, rfl⟩ := inR_t c20 (by omega)
      refine j_iload_n (pc' := 26) C dX8_contact_25 rfl 2 rfl ?_
      refine j_iconst (v := (nI 4)) (pc' := 27) C dX8_contact_26 rfl (by decide +kernel) ?_
      refine j_nc_ge (pc' := 30) C 89 dX8_contact_27 (by decide) rfl (by omega) (by omega) (fun c27 => ?_) (fun c27 => ?_)
      · refine j_iload_n (pc' := 90) C dX8_contact_89 rfl 2 rfl ?_
        refine j_iconst (v := (nI 4)) (pc' := 91) C dX8_contact_90 rfl (by decide +kernel) ?_
        refine j_nc_ne (pc' := 94) C 105 dX8_contact_91 (by decide) rfl (by omega) (by omega) (fun c91 => ?_) (fun c91 => ?_)
        · refine j_iload_n (pc' := 106) C dX8_contact_105 rfl 2 rfl ?_
          refine j_iconst (v := (nI 5)) (pc' := 107) C dX8_contact_106 rfl (by decide +kernel) ?_
          refine j_nc_ne (pc' := 110) C 139 dX8_contact_107 (by decide) rfl (by omega) (by omega) (fun c107 => ?_) (fun c107 => ?_)
          · refine j_aload_n (pc' := 140) C dX8_contact_139 rfl 0 rfl ?_
            refine j_get (v := .ref aS) (pc' := 143) C KX8 0 10 rfl (by decide) fl_X8_19 rfl rfl dX8_contact_140 rfl ?_
            refine j_bipush (v := (nI 21)) (pc' := 145) C dX8_contact_143 rfl (by decide +kernel) ?_
            refine j_iload_n (pc' := 146) C dX8_contact_145 rfl 1 rfl ?_
            refine j_iadd (v := (nI (21 + j))) (pc' := 147) C dX8_contact_146 rfl (nI_add 21 j) ?_
            refine j_nald (pc' := 148) C 2 rfl (by omega) (by decide) dX8_contact_147 rfl ?_
            exact j_iret C hr hk hA dX8_contact_148 (rfl) (⟨rfl, (by unfold ctQ; rw [if_neg (by simp [c10]), nI_clamp (by omega)]; simp only [nI_eq (show q < 2147483648 by omega) (show 0 < 2147483648 by decide), nI_eq (show q < 2147483648 by omega) (show 1 < 2147483648 by decide), nI_eq (show q < 2147483648 by omega) (show 2 < 2147483648 by decide), nI_eq (show q < 2147483648 by omega) (show 3 < 2147483648 by decide), nI_eq (show q < 2147483648 by omega) (show 4 < 2147483648 by decide), nI_eq (show q < 2147483648 by omega) (show 5 < 2147483648 by decide), nI_eq (show q < 2147483648 by omega) (show 6 < 2147483648 by decide)]; repeat (first | rw [if_neg (by omega)] | rw [if_pos (by omega)]))⟩)
          · refine j_aload_n (pc' := 111) C dX8_contact_110 rfl 0 rfl ?_
            refine j_get (v := .ref aS) (pc' := 114) C KX8 0 10 rfl (by decide) fl_X8_19 rfl rfl dX8_contact_111 rfl ?_
            refine j_iconst (v := (nI 3)) (pc' := 115) C dX8_contact_114 rfl (by decide +kernel) ?_
            refine j_iload_n (pc' := 116) C dX8_contact_115 rfl 1 rfl ?_
            refine j_iadd (v := (nI (3 + j))) (pc' := 117) C dX8_contact_116 rfl (nI_add 3 j) ?_
            refine j_nald (pc' := 118) C 2 rfl (by omega) (by decide) dX8_contact_117 rfl ?_
            refine j_iconst (v := (nI 2)) (pc' := 119) C dX8_contact_118 rfl (by decide +kernel) ?_
            refine j_nc_ge (pc' := 122) C 134 dX8_contact_119 (by decide) rfl (by omega) (by omega) (fun c119 => ?_) (fun c119 => ?_)
            · refine j_bipush (v := (-9)) (pc' := 136) C dX8_contact_134 rfl (by decide +kernel) ?_
              refine j_goto C 148 dX8_contact_136 (by decide) ?_
              exact j_iret C hr hk hA dX8_contact_148 (rfl) (⟨rfl, (by unfold ctQ; rw [if_neg (by simp [c10]), nI_clamp (by omega)]; simp only [nI_eq (show q < 2147483648 by omega) (show 0 < 2147483648 by decide), nI_eq (show q < 2147483648 by omega) (show 1 < 2147483648 by decide), nI_eq (show q < 2147483648 by omega) (show 2 < 2147483648 by decide), nI_eq (show q < 2147483648 by omega) (show 3 < 2147483648 by decide), nI_eq (show q < 2147483648 by omega) (show 4 < 2147483648 by decide), nI_eq (show q < 2147483648 by omega) (show 5 < 2147483648 by decide), nI_eq (show q < 2147483648 by omega) (show 6 < 2147483648 by decide)]; repeat (first | rw [if_neg (by omega)] | rw [if_pos (by omega)]))⟩)
            · refine j_aload_n (pc' := 123) C dX8_contact_122 rfl 0 rfl ?_
              refine j_get (v := .ref aS) (pc' := 126) C KX8 0 10 rfl (by decide) fl_X8_19 rfl rfl dX8_contact_123 rfl ?_
              refine j_bipush (v := (nI 12)) (pc' := 128) C dX8_contact_126 rfl (by decide +kernel) ?_
              refine j_iload_n (pc' := 129) C dX8_contact_128 rfl 1 rfl ?_
              refine j_iadd (v := (nI (12 + j))) (pc' := 130) C dX8_contact_129 rfl (nI_add 12 j) ?_
              refine j_nald (pc' := 131) C 2 rfl (by omega) (by decide) dX8_contact_130 rfl ?_
              refine j_goto C 148 dX8_contact_131 (by decide) ?_
              exact j_iret C hr hk hA dX8_contact_148 (rfl) (⟨rfl, (by unfold ctQ; rw [if_neg (by simp [c10]), nI_clamp (by omega)]; simp only [nI_eq (show q < 2147483648 by omega) (show 0 < 2147483648 by decide), nI_eq (show q < 2147483648 by omega) (show 1 < 2147483648 by decide), nI_eq (show q < 2147483648 by omega) (show 2 < 2147483648 by decide), nI_eq (show q < 2147483648 by omega) (show 3 < 2147483648 by decide), nI_eq (show q < 2147483648 by omega) (show 4 < 2147483648 by decide), nI_eq (show q < 2147483648 by omega) (show 5 < 2147483648 by decide), nI_eq (show q < 2147483648 by omega) (show 6 < 2147483648 by decide)]; repeat (first | rw [if_neg (by omega)] | rw [if_pos (by omega)]))⟩)
        · refine j_aload_n (pc' := 95) C dX8_contact_94 rfl 0 rfl ?_
          refine j_get (v := .ref aS) (pc' := 98) C KX8 0 10 rfl (by decide) fl_X8_19 rfl rfl dX8_contact_95 rfl ?_
          refine j_iconst (v := (nI 3)) (pc' := 99) C dX8_contact_98 rfl (by decide +kernel) ?_
          refine j_iload_n (pc' := 100) C dX8_contact_99 rfl 1 rfl ?_
          refine j_iadd (v := (nI (3 + j))) (pc' := 101) C dX8_contact_100 rfl (nI_add 3 j) ?_
          refine j_nald (pc' := 102) C 2 rfl (by omega) (by decide) dX8_contact_101 rfl ?_
          refine j_goto C 148 dX8_contact_102 (by decide) ?_
          exact j_iret C hr hk hA dX8_contact_148 (rfl) (⟨rfl, (by unfold ctQ; rw [if_neg (by simp [c10]), nI_clamp (by omega)]; simp only [nI_eq (show q < 2147483648 by omega) (show 0 < 2147483648 by decide), nI_eq (show q < 2147483648 by omega) (show 1 < 2147483648 by decide), nI_eq (show q < 2147483648 by omega) (show 2 < 2147483648 by decide), nI_eq (show q < 2147483648 by omega) (show 3 < 2147483648 by decide), nI_eq (show q < 2147483648 by omega) (show 4 < 2147483648 by decide), nI_eq (show q < 2147483648 by omega) (show 5 < 2147483648 by decide), nI_eq (show q < 2147483648 by omega) (show 6 < 2147483648 by decide)]; repeat (first | rw [if_neg (by omega)] | rw [if_pos (by omega)]))⟩)
      · refine j_iload_n (pc' := 31) C dX8_contact_30 rfl 2 rfl ?_
        refine j_nz_ne (pc' := 34) C 45 dX8_contact_31 (by decide) rfl (by omega) (fun c31 => ?_) (fun c31 => ?_)
        · refine j_iload_n (pc' := 46) C dX8_contact_45 rfl 2 rfl ?_
          refine j_iconst (v := (nI 1)) (pc' := 47) C dX8_contact_46 rfl (by decide +kernel) ?_
          refine j_nc_ne (pc' := 50) C 62 dX8_contact_47 (by decide) rfl (by omega) (by omega) (fun c47 => ?_) (fun c47 => ?_)
          · refine j_iload_n (pc' := 63) C dX8_contact_62 rfl 2 rfl ?_
            refine j_iconst (v := (nI 2)) (pc' := 64) C dX8_contact_63 rfl (by decide +kernel) ?_
            refine j_nc_ne (pc' := 67) C 79 dX8_contact_64 (by decide) rfl (by omega) (by omega) (fun c64 => ?_) (fun c64 => ?_)
            · refine j_aload_n (pc' := 80) C dX8_contact_79 rfl 0 rfl ?_
              refine j_get (v := .ref aT) (pc' := 83) C KX8 0 8 rfl (by decide) fl_X8_13 rfl rfl dX8_contact_80 rfl ?_
              refine j_bipush (v := (nI 30)) (pc' := 85) C dX8_contact_83 rfl (by decide +kernel) ?_
              refine j_iload_n (pc' := 86) C dX8_contact_85 rfl 1 rfl ?_
              refine j_iadd (v := (nI (30 + j))) (pc' := 87) C dX8_contact_86 rfl (nI_add 30 j) ?_
              refine j_nald (pc' := 88) C 1 rfl (by omega) (by decide) dX8_contact_87 rfl ?_
              exact j_iret C hr hk hA dX8_contact_88 (rfl) (⟨rfl, (by unfold ctQ; rw [if_neg (by simp [c10]), nI_clamp (by omega)]; simp only [nI_eq (show q < 2147483648 by omega) (show 0 < 2147483648 by decide), nI_eq (show q < 2147483648 by omega) (show 1 < 2147483648 by decide), nI_eq (show q < 2147483648 by omega) (show 2 < 2147483648 by decide), nI_eq (show q < 2147483648 by omega) (show 3 < 2147483648 by decide)]; repeat (first | rw [if_neg (by omega)] | rw [if_pos (by omega)]))⟩)
            · refine j_aload_n (pc' := 68) C dX8_contact_67 rfl 0 rfl ?_
              refine j_get (v := .ref aT) (pc' := 71) C KX8 0 8 rfl (by decide) fl_X8_13 rfl rfl dX8_contact_68 rfl ?_
              refine j_bipush (v := (nI 21)) (pc' := 73) C dX8_contact_71 rfl (by decide +kernel) ?_
              refine j_iload_n (pc' := 74) C dX8_contact_73 rfl 1 rfl ?_
              refine j_iadd (v := (nI (21 + j))) (pc' := 75) C dX8_contact_74 rfl (nI_add 21 j) ?_
              refine j_nald (pc' := 76) C 1 rfl (by omega) (by decide) dX8_contact_75 rfl ?_
              refine j_goto C 88 dX8_contact_76 (by decide) ?_
              exact j_iret C hr hk hA dX8_contact_88 (rfl) (⟨rfl, (by unfold ctQ; rw [if_neg (by simp [c10]), nI_clamp (by omega)]; simp only [nI_eq (show q < 2147483648 by omega) (show 0 < 2147483648 by decide), nI_eq (show q < 2147483648 by omega) (show 1 < 2147483648 by decide), nI_eq (show q < 2147483648 by omega) (show 2 < 2147483648 by decide), nI_eq (show q < 2147483648 by omega) (show 3 < 2147483648 by decide)]; repeat (first | rw [if_neg (by omega)] | rw [if_pos (by omega)]))⟩)
          · refine j_aload_n (pc' := 51) C dX8_contact_50 rfl 0 rfl ?_
            refine j_get (v := .ref aT) (pc' := 54) C KX8 0 8 rfl (by decide) fl_X8_13 rfl rfl dX8_contact_51 rfl ?_
            refine j_bipush (v := (nI 12)) (pc' := 56) C dX8_contact_54 rfl (by decide +kernel) ?_
            refine j_iload_n (pc' := 57) C dX8_contact_56 rfl 1 rfl ?_
            refine j_iadd (v := (nI (12 + j))) (pc' := 58) C dX8_contact_57 rfl (nI_add 12 j) ?_
            refine j_nald (pc' := 59) C 1 rfl (by omega) (by decide) dX8_contact_58 rfl ?_
            refine j_goto C 88 dX8_contact_59 (by decide) ?_
            exact j_iret C hr hk hA dX8_contact_88 (rfl) (⟨rfl, (by unfold ctQ; rw [if_neg (by simp [c10]), nI_clamp (by omega)]; simp only [nI_eq (show q < 2147483648 by omega) (show 0 < 2147483648 by decide), nI_eq (show q < 2147483648 by omega) (show 1 < 2147483648 by decide), nI_eq (show q < 2147483648 by omega) (show 2 < 2147483648 by decide), nI_eq (show q < 2147483648 by omega) (show 3 < 2147483648 by decide)]; repeat (first | rw [if_neg (by omega)] | rw [if_pos (by omega)]))⟩)
        · refine j_aload_n (pc' := 35) C dX8_contact_34 rfl 0 rfl ?_
          refine j_get (v := .ref aT) (pc' := 38) C KX8 0 8 rfl (by decide) fl_X8_13 rfl rfl dX8_contact_35 rfl ?_
          refine j_iconst (v := (nI 3)) (pc' := 39) C dX8_contact_38 rfl (by decide +kernel) ?_
          refine j_iload_n (pc' := 40) C dX8_contact_39 rfl 1 rfl ?_
          refine j_iadd (v := (nI (3 + j))) (pc' := 41) C dX8_contact_40 rfl (nI_add 3 j) ?_
          refine j_nald (pc' := 42) C 1 rfl (by omega) (by decide) dX8_contact_41 rfl ?_
          refine j_goto C 88 dX8_contact_42 (by decide) ?_
          exact j_iret C hr hk hA dX8_contact_88 (rfl) (⟨rfl, (by unfold ctQ; rw [if_neg (by simp [c10]), nI_clamp (by omega)]; simp only [nI_eq (show q < 2147483648 by omega) (show 0 < 2147483648 by decide), nI_eq (show q < 2147483648 by omega) (show 1 < 2147483648 by decide), nI_eq (show q < 2147483648 by omega) (show 2 < 2147483648 by decide), nI_eq (show q < 2147483648 by omega) (show 3 < 2147483648 by decide)]; repeat (first | rw [if_neg (by omega)] | rw [if_pos (by omega)]))⟩)
    · rw [in_R2 _ _ (by omega)] at c20
      refine j_iconst (v := (-1)) (pc' := 24) C dX8_contact_23 rfl (by decide +kernel) ?_
      exact j_iret C hr hk hA dX8_contact_24 (rfl) (⟨rfl, (by have h9 := inR_f c20; unfold ctQ; rw [if_neg (by simp [c10])]; repeat (first | rw [if_neg (by intro q9; rw [q9, nI_toInt (by decide)] at h9; omega)] | rfl))⟩)

set_option maxHeartbeats 4000000 in
set_option maxRecDepth 100000 in
theorem c_X8_notes {lch : Launch} {dG : va_G} {cyI cyZ cyO : ClassId} (a0 : Nat) (th : Int32) (aX : Nat) (ty : Int32) (sp : Int32) (tk : Int32) (pl : Int32) (va : Int32) (fa : Int32) (aT : Nat) (aD : Nat) (aS : Nat) (aU : Nat) (aK : Nat) (aI : Nat) (aL : Nat) (aE : Nat) (aF : Nat) (sm : Int32) (aP : Nat) (aW : Nat) (sn : Int32) (aB : Nat) (aM : Nat) (s : Nat → Nat) (u : Nat → Nat) (n : Nat) (hn : n ≤ 10) : Kv lch yX8_notes cX8_notes 2 (rmk 1) dG (cyI, cyZ, cyO) [.ref a0] [(a0, .inr (8, [.int th, .ref aX, .int ty, .int sp, .int tk, .int pl, .int va, .int fa, .ref aT, .ref aD, .ref aS, .ref aU, .int (nI n), .ref aK, .ref aI, .ref aL, .ref aE, .ref aF, .int sm, .ref aP, .ref aW, .int sn, .ref aB, .ref aM])), (aS, .inl (cyI, 30, .inl (nA s))), (aU, .inl (cyI, 300, .inl (nA u)))] (fun w1 => w1 = [(a0, .inr (8, [.int th, .ref aX, .int ty, .int sp, .int tk, .int pl, .int va, .int fa, .ref aT, .ref aD, .ref aS, .ref aU, .int (nI (nN n + 1)), .ref aK, .ref aI, .ref aL, .ref aE, .ref aF, .int sm, .ref aP, .ref aW, .int sn, .ref aB, .ref aM])), (aS, .inl (cyI, 30, .inl (nA s))), (aU, .inl (cyI, 300, .inl (nA (nU u s n))))]) := by
  refine Kv.of (own := RX8) rfl (by decide) (Nat.le_of_ble_eq_true rfl) (fun p0 e0 s0 m0 ar0 be0 me0 cd0 A0 C hr hk hnm hA => ?_)
  refine j_lsub [(0, .ref a0)] [0] rfl ?_
  refine j_aload_n (pc' := 1) C dX8_notes_0 rfl 0 rfl ?_
  refine j_get (v := .int (nI n)) (pc' := 4) C KX8 0 12 rfl (by decide) fl_X8_127 rfl rfl dX8_notes_1 rfl ?_
  refine j_bipush (v := (nI 10)) (pc' := 6) C dX8_notes_4 rfl (by decide +kernel) ?_
  refine j_nc_ne (pc' := 9) C 45 dX8_notes_6 (by decide) rfl (by omega) (by omega) (fun c6 => ?_) (fun c6 => ?_)
  · refine j_iconst (v := (nI 0)) (pc' := 46) C dX8_notes_45 rfl (by decide +kernel) ?_
    refine j_istore_n (pc' := 47) C [(1, .int (nI 0)), (0, .ref a0)] dX8_notes_46 rfl (by decide) rfl ?_
    refine j_lsub [(0, .ref a0), (1, .int (nI 0))] [1, 0] rfl ?_
    refine j_loop2 (fun (i : Nat) (y2 : Nat → Nat) => [(a0, .inr (8, [.int th, .ref aX, .int ty, .int sp, .int tk, .int pl, .int va, .int fa, .ref aT, .ref aD, .ref aS, .ref aU, .int (nI n), .ref aK, .ref aI, .ref aL, .ref aE, .ref aF, .int sm, .ref aP, .ref aW, .int sn, .ref aB, .ref aM])), (aS, .inl (cyI, 30, .inl (nA s))), (aU, .inl (cyI, 300, .inl (nA y2)))]) (fun (i : Nat) (y2 : Nat → Nat) => [(0, .ref a0), (1, .int (nI i))]) (fun (i : Nat) (y2 : Nat → Nat) => []) (fun (i : Nat) (y2 : Nat → Nat) => i ≤ 30 ∧ y2 = flN u s (30 * n) i) (fun (i : Nat) (y2 : Nat → Nat) => 30 - i) ?_ 0 u ?_
    · intro i y2 hI47 ih47
      obtain ⟨hi2, hy2⟩ := hI47
      refine j_iload_n (pc' := 48) C dX8_notes_47 rfl 1 rfl ?_
      refine j_bipush (v := (nI 30)) (pc' := 50) C dX8_notes_48 rfl (by decide +kernel) ?_
      refine j_nc_ge (pc' := 53) C 79 dX8_notes_50 (by decide) rfl (by omega) (by omega) (fun c50 => ?_) (fun c50 => ?_)
      · refine j_aload_n (pc' := 80) C dX8_notes_79 rfl 0 rfl ?_
        refine j_dup (pc' := 81) C dX8_notes_80 rfl rfl ?_
        refine j_get (v := .int (nI n)) (pc' := 84) C KX8 0 12 rfl (by decide) fl_X8_127 rfl rfl dX8_notes_81 rfl ?_
        refine j_iconst (v := (nI 1)) (pc' := 85) C dX8_notes_84 rfl (by decide +kernel) ?_
        refine j_iadd (v := (nI (n + 1))) (pc' := 86) C dX8_notes_85 rfl (nI_add n 1) ?_
        refine j_put (pc' := 89) C [(a0, .inr (8, [.int th, .ref aX, .int ty, .int sp, .int tk, .int pl, .int va, .int fa, .ref aT, .ref aD, .ref aS, .ref aU, .int (nI (n + 1)), .ref aK, .ref aI, .ref aL, .ref aE, .ref aF, .int sm, .ref aP, .ref aW, .int sn, .ref aB, .ref aM])), (aS, .inl (cyI, 30, .inl (nA s))), (aU, .inl (cyI, 300, .inl (nA y2)))] KX8 0 12 rfl (by decide) fl_X8_127 rfl rfl rfl rfl (Nat.le_of_ble_eq_true rfl) dX8_notes_86 rfl rfl ?_
        exact j_vret C hr hk hA dX8_notes_89 (by unfold nU nN; rw [if_neg c6, if_neg c6, hy2, show i = 30 by omega])
      · refine j_aload_n (pc' := 54) C dX8_notes_53 rfl 0 rfl ?_
        refine j_get (v := .ref aU) (pc' := 57) C KX8 0 11 rfl (by decide) fl_X8_22 rfl rfl dX8_notes_54 rfl ?_
        refine j_bipush (v := (nI 30)) (pc' := 59) C dX8_notes_57 rfl (by decide +kernel) ?_
        refine j_aload_n (pc' := 60) C dX8_notes_59 rfl 0 rfl ?_
        refine j_get (v := .int (nI n)) (pc' := 63) C KX8 0 12 rfl (by decide) fl_X8_127 rfl rfl dX8_notes_60 rfl ?_
        refine j_imul (v := (nI (30 * n))) (pc' := 64) C dX8_notes_63 rfl (pk_mul 30 n) ?_
        refine j_iload_n (pc' := 65) C dX8_notes_64 rfl 1 rfl ?_
        refine j_iadd (v := (nI ((30 * n) + i))) (pc' := 66) C dX8_notes_65 rfl (nI_add (30 * n) i) ?_
        refine j_aload_n (pc' := 67) C dX8_notes_66 rfl 0 rfl ?_
        refine j_get (v := .ref aS) (pc' := 70) C KX8 0 10 rfl (by decide) fl_X8_19 rfl rfl dX8_notes_67 rfl ?_
        refine j_iload_n (pc' := 71) C dX8_notes_70 rfl 1 rfl ?_
        refine j_nald (pc' := 72) C 1 rfl (by omega) (by decide) dX8_notes_71 rfl ?_
        refine j_nast (pc' := 73) C [(a0, .inr (8, [.int th, .ref aX, .int ty, .int sp, .int tk, .int pl, .int va, .int fa, .ref aT, .ref aD, .ref aS, .ref aU, .int (nI n), .ref aK, .ref aI, .ref aL, .ref aE, .ref aF, .int sm, .ref aP, .ref aW, .int sn, .ref aB, .ref aM])), (aS, .inl (cyI, 30, .inl (nA s))), (aU, .inl (cyI, 300, .inl (nA (uN y2 ((30 * n) + i) (s i)))))] 2 rfl (by omega) (by decide) dX8_notes_72 rfl rfl ?_
        refine j_iinc (v := (nI (i + 1))) (pc' := 76) C [(1, .int (nI (i + 1))), (0, .ref a0)] dX8_notes_73 rfl 1 rfl (inc_n i 1) (by decide) rfl ?_
        refine j_goto C 47 dX8_notes_76 (by decide) ?_
        refine j_lsub [(0, .ref a0), (1, .int (nI (i + 1)))] [1, 0] rfl ?_
        exact ih47 (i + 1) (uN y2 ((30 * n) + i) (s i)) (⟨by omega, by rw [hy2, ← flN_s]⟩) (by omega)
    · exact ⟨Nat.zero_le _, (flN_0 _ _ _).symm⟩
  · refine j_iconst (v := (nI 0)) (pc' := 10) C dX8_notes_9 rfl (by decide +kernel) ?_
    refine j_istore_n (pc' := 11) C [(1, .int (nI 0)), (0, .ref a0)] dX8_notes_10 rfl (by decide) rfl ?_
    refine j_lsub [(0, .ref a0), (1, .int (nI 0))] [1, 0] rfl ?_
    refine j_loop2 (fun (i0 : Nat) (y : Nat → Nat) => [(a0, .inr (8, [.int th, .ref aX, .int ty, .int sp, .int tk, .int pl, .int va, .int fa, .ref aT, .ref aD, .ref aS, .ref aU, .int (nI n), .ref aK, .ref aI, .ref aL, .ref aE, .ref aF, .int sm, .ref aP, .ref aW, .int sn, .ref aB, .ref aM])), (aS, .inl (cyI, 30, .inl (nA s))), (aU, .inl (cyI, 300, .inl (nA y)))]) (fun (i0 : Nat) (y : Nat → Nat) => [(0, .ref a0), (1, .int (nI i0))]) (fun (i0 : Nat) (y : Nat → Nat) => []) (fun (i0 : Nat) (y : Nat → Nat) => i0 ≤ 270 ∧ y = flN u (fun k => u (k + 30)) 0 i0) (fun (i0 : Nat) (y : Nat → Nat) => 270 - i0) ?_ 0 u ?_
    · intro i0 y hI11 ih11
      obtain ⟨hi, hy⟩ := hI11
      refine j_iload_n (pc' := 12) C dX8_notes_11 rfl 1 rfl ?_
      refine j_sipush (v := (nI 270)) (pc' := 15) C dX8_notes_12 rfl (by decide +kernel) ?_
      refine j_nc_ge (pc' := 18) C 39 dX8_notes_15 (by decide) rfl (by omega) (by omega) (fun c15 => ?_) (fun c15 => ?_)
      · refine j_aload_n (pc' := 40) C dX8_notes_39 rfl 0 rfl ?_
        refine j_bipush (v := (nI 9)) (pc' := 42) C dX8_notes_40 rfl (by decide +kernel) ?_
        refine j_put (pc' := 45) C [(a0, .inr (8, [.int th, .ref aX, .int ty, .int sp, .int tk, .int pl, .int va, .int fa, .ref aT, .ref aD, .ref aS, .ref aU, .int (nI 9), .ref aK, .ref aI, .ref aL, .ref aE, .ref aF, .int sm, .ref aP, .ref aW, .int sn, .ref aB, .ref aM])), (aS, .inl (cyI, 30, .inl (nA s))), (aU, .inl (cyI, 300, .inl (nA y)))] KX8 0 12 rfl (by decide) fl_X8_127 rfl rfl rfl rfl (Nat.le_of_ble_eq_true rfl) dX8_notes_42 rfl rfl ?_
        refine j_iconst (v := (nI 0)) (pc' := 46) C dX8_notes_45 rfl (by decide +kernel) ?_
        refine j_istore_n (pc' := 47) C [(1, .int (nI 0)), (0, .ref a0)] dX8_notes_46 rfl (by decide) rfl ?_
        refine j_lsub [(0, .ref a0), (1, .int (nI 0))] [1, 0] rfl ?_
        refine j_loop2 (fun (i : Nat) (y2 : Nat → Nat) => [(a0, .inr (8, [.int th, .ref aX, .int ty, .int sp, .int tk, .int pl, .int va, .int fa, .ref aT, .ref aD, .ref aS, .ref aU, .int (nI 9), .ref aK, .ref aI, .ref aL, .ref aE, .ref aF, .int sm, .ref aP, .ref aW, .int sn, .ref aB, .ref aM])), (aS, .inl (cyI, 30, .inl (nA s))), (aU, .inl (cyI, 300, .inl (nA y2)))]) (fun (i : Nat) (y2 : Nat → Nat) => [(0, .ref a0), (1, .int (nI i))]) (fun (i : Nat) (y2 : Nat → Nat) => []) (fun (i : Nat) (y2 : Nat → Nat) => i ≤ 30 ∧ y2 = flN y s (30 * 9) i) (fun (i : Nat) (y2 : Nat → Nat) => 30 - i) ?_ 0 y ?_
        · intro i y2 hI47 ih47
          obtain ⟨hi2, hy2⟩ := hI47
          refine j_iload_n (pc' := 48) C dX8_notes_47 rfl 1 rfl ?_
          refine j_bipush (v := (nI 30)) (pc' := 50) C dX8_notes_48 rfl (by decide +kernel) ?_
          refine j_nc_ge (pc' := 53) C 79 dX8_notes_50 (by decide) rfl (by omega) (by omega) (fun c50 => ?_) (fun c50 => ?_)
          · refine j_aload_n (pc' := 80) C dX8_notes_79 rfl 0 rfl ?_
            refine j_dup (pc' := 81) C dX8_notes_80 rfl rfl ?_
            refine j_get (v := .int (nI 9)) (pc' := 84) C KX8 0 12 rfl (by decide) fl_X8_127 rfl rfl dX8_notes_81 rfl ?_
            refine j_iconst (v := (nI 1)) (pc' := 85) C dX8_notes_84 rfl (by decide +kernel) ?_
            refine j_iadd (v := (nI 10)) (pc' := 86) C dX8_notes_85 rfl (by decide +kernel) ?_
            refine j_put (pc' := 89) C [(a0, .inr (8, [.int th, .ref aX, .int ty, .int sp, .int tk, .int pl, .int va, .int fa, .ref aT, .ref aD, .ref aS, .ref aU, .int (nI 10), .ref aK, .ref aI, .ref aL, .ref aE, .ref aF, .int sm, .ref aP, .ref aW, .int sn, .ref aB, .ref aM])), (aS, .inl (cyI, 30, .inl (nA s))), (aU, .inl (cyI, 300, .inl (nA y2)))] KX8 0 12 rfl (by decide) fl_X8_127 rfl rfl rfl rfl (Nat.le_of_ble_eq_true rfl) dX8_notes_86 rfl rfl ?_
            exact j_vret C hr hk hA dX8_notes_89 (by unfold nU nN; rw [if_pos c6, if_pos c6, hy2, hy, show i = 30 by omega, show i0 = 270 by omega])
          · refine j_aload_n (pc' := 54) C dX8_notes_53 rfl 0 rfl ?_
            refine j_get (v := .ref aU) (pc' := 57) C KX8 0 11 rfl (by decide) fl_X8_22 rfl rfl dX8_notes_54 rfl ?_
            refine j_bipush (v := (nI 30)) (pc' := 59) C dX8_notes_57 rfl (by decide +kernel) ?_
            refine j_aload_n (pc' := 60) C dX8_notes_59 rfl 0 rfl ?_
            refine j_get (v := .int (nI 9)) (pc' := 63) C KX8 0 12 rfl (by decide) fl_X8_127 rfl rfl dX8_notes_60 rfl ?_
            refine j_imul (v := (nI (30 * 9))) (pc' := 64) C dX8_notes_63 rfl (pk_mul 30 9) ?_
            refine j_iload_n (pc' := 65) C dX8_notes_64 rfl 1 rfl ?_
            refine j_iadd (v := (nI ((30 * 9) + i))) (pc' := 66) C dX8_notes_65 rfl (nI_add (30 * 9) i) ?_
            refine j_aload_n (pc' := 67) C dX8_notes_66 rfl 0 rfl ?_
            refine j_get (v := .ref aS) (pc' := 70) C KX8 0 10 rfl (by decide) fl_X8_19 rfl rfl dX8_notes_67 rfl ?_
            refine j_iload_n (pc' := 71) C dX8_notes_70 rfl 1 rfl ?_
            refine j_nald (pc' := 72) C 1 rfl (by omega) (by decide) dX8_notes_71 rfl ?_
            refine j_nast (pc' := 73) C [(a0, .inr (8, [.int th, .ref aX, .int ty, .int sp, .int tk, .int pl, .int va, .int fa, .ref aT, .ref aD, .ref aS, .ref aU, .int (nI 9), .ref aK, .ref aI, .ref aL, .ref aE, .ref aF, .int sm, .ref aP, .ref aW, .int sn, .ref aB, .ref aM])), (aS, .inl (cyI, 30, .inl (nA s))), (aU, .inl (cyI, 300, .inl (nA (uN y2 ((30 * 9) + i) (s i)))))] 2 rfl (by omega) (by decide) dX8_notes_72 rfl rfl ?_
            refine j_iinc (v := (nI (i + 1))) (pc' := 76) C [(1, .int (nI (i + 1))), (0, .ref a0)] dX8_notes_73 rfl 1 rfl (inc_n i 1) (by decide) rfl ?_
            refine j_goto C 47 dX8_notes_76 (by decide) ?_
            refine j_lsub [(0, .ref a0), (1, .int (nI (i + 1)))] [1, 0] rfl ?_
            exact ih47 (i + 1) (uN y2 ((30 * 9) + i) (s i)) (⟨by omega, by rw [hy2, ← flN_s]⟩) (by omega)
        · exact ⟨Nat.zero_le _, (flN_0 _ _ _).symm⟩
      · refine j_aload_n (pc' := 19) C dX8_notes_18 rfl 0 rfl ?_
        refine j_get (v := .ref aU) (pc' := 22) C KX8 0 11 rfl (by decide) fl_X8_22 rfl rfl dX8_notes_19 rfl ?_
        refine j_iload_n (pc' := 23) C dX8_notes_22 rfl 1 rfl ?_
        refine j_aload_n (pc' := 24) C dX8_notes_23 rfl 0 rfl ?_
        refine j_get (v := .ref aU) (pc' := 27) C KX8 0 11 rfl (by decide) fl_X8_22 rfl rfl dX8_notes_24 rfl ?_
        refine j_iload_n (pc' := 28) C dX8_notes_27 rfl 1 rfl ?_
        refine j_bipush (v := (nI 30)) (pc' := 30) C dX8_notes_28 rfl (by decide +kernel) ?_
        refine j_iadd (v := (nI (i0 + 30))) (pc' := 31) C dX8_notes_30 rfl (nI_add i0 30) ?_
        refine j_nald (pc' := 32) C 2 rfl (by omega) (by decide) dX8_notes_31 rfl ?_
        refine j_nast (pc' := 33) C [(a0, .inr (8, [.int th, .ref aX, .int ty, .int sp, .int tk, .int pl, .int va, .int fa, .ref aT, .ref aD, .ref aS, .ref aU, .int (nI n), .ref aK, .ref aI, .ref aL, .ref aE, .ref aF, .int sm, .ref aP, .ref aW, .int sn, .ref aB, .ref aM])), (aS, .inl (cyI, 30, .inl (nA s))), (aU, .inl (cyI, 300, .inl (nA (uN y i0 (y (i0 + 30))))))] 2 rfl (by omega) (by decide) dX8_notes_32 rfl rfl ?_
        refine j_iinc (v := (nI (i0 + 1))) (pc' := 36) C [(1, .int (nI (i0 + 1))), (0, .ref a0)] dX8_notes_33 rfl 1 rfl (inc_n i0 1) (by decide) rfl ?_
        refine j_goto C 11 dX8_notes_36 (by decide) ?_
        refine j_lsub [(0, .ref a0), (1, .int (nI (i0 + 1)))] [1, 0] rfl ?_
        exact ih11 (i0 + 1) (uN y i0 (y (i0 + 30))) (⟨by omega, by rw [hy, flN_o (by omega), ← flN_s]; simp only [Nat.zero_add]⟩) (by omega)
    · exact ⟨Nat.zero_le _, (flN_0 _ _ _).symm⟩

set_option maxHeartbeats 4000000 in
set_option maxRecDepth 100000 in
theorem c_X8_wishes {lch : Launch} {dG : va_G} {cyI cyZ cyO : ClassId} (a0 : Nat) (th : Int32) (aX : Nat) (ty : Int32) (sp : Int32) (tk : Int32) (pl : Int32) (va : Int32) (fa : Int32) (aT : Nat) (aD : Nat) (aS : Nat) (aU : Nat) (aK : Nat) (aI : Nat) (aL : Nat) (aE : Nat) (aF : Nat) (sm : Int32) (aP : Nat) (aW : Nat) (sn : Int32) (aB : Nat) (aM : Nat) (t : Nat → Nat) (s : Nat → Nat) (u : Nat → Nat) (n : Nat) (l : Int32) (v : Int32) (hT : WT t) (hn : n ≤ 10) : Ki lch yX8_wishes cX8_wishes 4 .int (rmk 3) dG (cyI, cyZ, cyO) [.ref a0, .int l, .int v] [(a0, .inr (8, [.int th, .ref aX, .int ty, .int sp, .int tk, .int pl, .int va, .int fa, .ref aT, .ref aD, .ref aS, .ref aU, .int (nI n), .ref aK, .ref aI, .ref aL, .ref aE, .ref aF, .int sm, .ref aP, .ref aW, .int sn, .ref aB, .ref aM])), (aT, .inl (cyI, 42, .inl (nA t))), (aS, .inl (cyI, 30, .inl (nA s))), (aU, .inl (cyI, 300, .inl (nA u)))] (fun r w1 => ∃ (s1 : Nat → Nat), ∃ (u1 : Nat → Nat), ∃ (n1 : Nat), w1 = [(a0, .inr (8, [.int (nI 0), .ref aX, .int ty, .int sp, .int tk, .int pl, .int va, .int fa, .ref aT, .ref aD, .ref aS, .ref aU, .int (nI n1), .ref aK, .ref aI, .ref aL, .ref aE, .ref aF, .int sm, .ref aP, .ref aW, .int sn, .ref aB, .ref aM])), (aT, .inl (cyI, 42, .inl (nA t))), (aS, .inl (cyI, 30, .inl (nA s1))), (aU, .inl (cyI, 300, .inl (nA u1)))] ∧ (r, s1, u1, n1) = wiQ t s u n l v) := by
  have h1 := hT.n
  refine Ki.of (own := RX8) rfl (by decide) (Nat.le_of_ble_eq_true rfl) (fun p0 e0 s0 m0 ar0 be0 me0 cd0 A0 C hr hk hnm hA => ?_)
  refine j_lsub [(0, .ref a0), (1, .int l), (2, .int v)] [0, 1, 2] rfl ?_
  refine j_aload_n (pc' := 1) C dX8_wishes_0 rfl 0 rfl ?_
  refine j_iconst (v := (nI 0)) (pc' := 2) C dX8_wishes_1 rfl (by decide +kernel) ?_
  refine j_put (pc' := 5) C [(a0, .inr (8, [.int (nI 0), .ref aX, .int ty, .int sp, .int tk, .int pl, .int va, .int fa, .ref aT, .ref aD, .ref aS, .ref aU, .int (nI n), .ref aK, .ref aI, .ref aL, .ref aE, .ref aF, .int sm, .ref aP, .ref aW, .int sn, .ref aB, .ref aM])), (aT, .inl (cyI, 42, .inl (nA t))), (aS, .inl (cyI, 30, .inl (nA s))), (aU, .inl (cyI, 300, .inl (nA u)))] KX8 0 0 rfl (by decide) fl_X8_59 rfl rfl rfl rfl (Nat.le_of_ble_eq_true rfl) dX8_wishes_2 rfl rfl ?_
  refine j_aload_n (pc' := 6) C dX8_wishes_5 rfl 0 rfl ?_
  refine j_iload_n (pc' := 7) C dX8_wishes_6 rfl 1 rfl ?_
  refine j_cVi (As := [.int l]) (wr := [(aS, .inl (cyI, 30, .inl (nA s))), (aU, .inl (cyI, 300, .inl (nA u)))]) (pc' := 10) C (c_X8_isLoad (a0 := a0) (th := (nI 0)) (aX := aX) (ty := ty) (sp := sp) (tk := tk) (pl := pl) (va := va) (fa := fa) (aT := aT) (aD := aD) (aS := aS) (aU := aU) (um := (nI n)) (aK := aK) (aI := aI) (aL := aL) (aE := aE) (aF := aF) (sm := sm) (aP := aP) (aW := aW) (sn := sn) (aB := aB) (aM := aM) (t := t) (v := l) (hT := by first | assumption | omega)) Y_X8_isLoad (ml_X8_150) [0, 1] [2, 3] rfl rfl rfl rfl (by decide) rfl rfl rfl dX8_wishes_7 rfl rfl rfl (Nat.le_of_ble_eq_true rfl) ⟨Nat.le_of_ble_eq_true rfl, Nat.le_of_ble_eq_true rfl⟩ ⟨Nat.le_of_ble_eq_true rfl, Nat.le_of_ble_eq_true rfl⟩ ⟨rfl, rfl⟩ (fun r1 w1 hQ => ?_)
  obtain ⟨rfl, rfl⟩ := hQ
  refine j_perm [(a0, .inr (8, [.int (nI 0), .ref aX, .int ty, .int sp, .int tk, .int pl, .int va, .int fa, .ref aT, .ref aD, .ref aS, .ref aU, .int (nI n), .ref aK, .ref aI, .ref aL, .ref aE, .ref aF, .int sm, .ref aP, .ref aW, .int sn, .ref aB, .ref aM])), (aT, .inl (cyI, 42, .inl (nA t))), (aS, .inl (cyI, 30, .inl (nA s))), (aU, .inl (cyI, 300, .inl (nA u)))] [2, 3, 0, 1] rfl rfl (by decide) ?_
  refine j_b_eq (pc' := 13) C 23 dX8_wishes_10 (by decide) rfl (fun c10 => ?_) (fun c10 => ?_)
  · refine j_iconst (v := (-1)) (pc' := 24) C dX8_wishes_23 rfl (by decide +kernel) ?_
    exact j_iret C hr hk hA dX8_wishes_24 (rfl) (⟨s, u, n, rfl, by unfold wiQ; rw [if_pos (by simp_all)]⟩)
  · obtain ⟨j, hj, rfl⟩ := inR_t c10 (by omega)
    refine j_iload_n (pc' := 14) C dX8_wishes_13 rfl 2 rfl ?_
    refine j_iconst (v := (nI 0)) (pc' := 15) C dX8_wishes_14 rfl (by decide +kernel) ?_
    refine j_ldc (v := 65535) (pc' := 17) C dX8_wishes_15 rfl co_X8_156 ?_
    refine j_top (nI 65535) (by decide +kernel) ?_
    refine j_cSi (As := [.int v, .int (nI 0), .int (nI 65535)]) (wr := [(a0, .inr (8, [.int (nI 0), .ref aX, .int ty, .int sp, .int tk, .int pl, .int va, .int fa, .ref aT, .ref aD, .ref aS, .ref aU, .int (nI n), .ref aK, .ref aI, .ref aL, .ref aE, .ref aF, .int sm, .ref aP, .ref aW, .int sn, .ref aB, .ref aM])), (aT, .inl (cyI, 42, .inl (nA t))), (aS, .inl (cyI, 30, .inl (nA s))), (aU, .inl (cyI, 300, .inl (nA u)))]) (pc' := 20) C (c_X8_in (x := v) (a := (nI 0)) (b := (nI 65535)) ) Y_X8_in (ml_X8_63) [] [0, 1, 2, 3] rfl rfl rfl rfl (by decide) dX8_wishes_17 rfl rfl rfl (Nat.le_of_ble_eq_true rfl) ⟨Nat.le_of_ble_eq_true rfl, Nat.le_of_ble_eq_true rfl⟩ ⟨Nat.le_of_ble_eq_true rfl, Nat.le_of_ble_eq_true rfl⟩ ⟨rfl, rfl⟩ (fun r2 w1 hQ => ?_)
    obtain ⟨rfl, rfl⟩ := hQ
    refine j_perm [(a0, .inr (8, [.int (nI 0), .ref aX, .int ty, .int sp, .int tk, .int pl, .int va, .int fa, .ref aT, .ref aD, .ref aS, .ref aU, .int (nI n), .ref aK, .ref aI, .ref aL, .ref aE, .ref aF, .int sm, .ref aP, .ref aW, .int sn, .ref aB, .ref aM])), (aT, .inl (cyI, 42, .inl (nA t))), (aS, .inl (cyI, 30, .inl (nA s))), (aU, .inl (cyI, 300, .inl (nA u)))] [0, 1, 2, 3] rfl rfl (by decide) ?_
    refine j_b_ne (pc' := 23) C 25 dX8_wishes_20 (by decide) rfl (fun c20 => ?_) (fun c20 => ?_)
    · rw [in_R2 _ _ (by omega)] at c20
      obtain ⟨q, hq, rfl⟩ := inR_t c20 (by omega)
      refine j_aload_n (pc' := 26) C dX8_wishes_25 rfl 0 rfl ?_
      refine j_cVv (As := []) (wr := [(aT, .inl (cyI, 42, .inl (nA t)))]) (pc' := 29) C (c_X8_notes (a0 := a0) (th := (nI 0)) (aX := aX) (ty := ty) (sp := sp) (tk := tk) (pl := pl) (va := va) (fa := fa) (aT := aT) (aD := aD) (aS := aS) (aU := aU) (aK := aK) (aI := aI) (aL := aL) (aE := aE) (aF := aF) (sm := sm) (aP := aP) (aW := aW) (sn := sn) (aB := aB) (aM := aM) (s := s) (u := u) (n := n) (hn := by first | assumption | omega)) Y_X8_notes (ml_X8_157) [0, 2, 3] [1] rfl rfl rfl rfl (by decide) rfl rfl rfl dX8_wishes_26 rfl rfl rfl (Nat.le_of_ble_eq_true rfl) ⟨Nat.le_of_ble_eq_true rfl, Nat.le_of_ble_eq_true rfl⟩ ⟨Nat.le_of_ble_eq_true rfl, Nat.le_of_ble_eq_true rfl⟩ ⟨rfl, rfl⟩ (fun w1 hQ => ?_)
      obtain rfl := hQ
      refine j_perm [(a0, .inr (8, [.int (nI 0), .ref aX, .int ty, .int sp, .int tk, .int pl, .int va, .int fa, .ref aT, .ref aD, .ref aS, .ref aU, .int (nI (nN n + 1)), .ref aK, .ref aI, .ref aL, .ref aE, .ref aF, .int sm, .ref aP, .ref aW, .int sn, .ref aB, .ref aM])), (aT, .inl (cyI, 42, .inl (nA t))), (aS, .inl (cyI, 30, .inl (nA s))), (aU, .inl (cyI, 300, .inl (nA (nU u s n))))] [1, 0, 2, 3] rfl rfl (by decide) ?_
      refine j_aload_n (pc' := 30) C dX8_wishes_29 rfl 0 rfl ?_
      refine j_get (v := .ref aS) (pc' := 33) C KX8 0 10 rfl (by decide) fl_X8_19 rfl rfl dX8_wishes_30 rfl ?_
      refine j_iconst (v := (nI 0)) (pc' := 34) C dX8_wishes_33 rfl (by decide +kernel) ?_
      refine j_iload_n (pc' := 35) C dX8_wishes_34 rfl 1 rfl ?_
      refine j_iadd (v := (nI j)) (pc' := 36) C dX8_wishes_35 rfl (add_0I j) ?_
      refine j_nald (pc' := 37) C 2 rfl (by omega) (by decide) dX8_wishes_36 rfl ?_
      refine j_istore_n (pc' := 38) C [(3, .int (nI (s j))), (0, .ref a0), (1, .int (nI j)), (2, .int (nI q))] dX8_wishes_37 rfl (by decide) rfl ?_
      refine j_aload_n (pc' := 39) C dX8_wishes_38 rfl 1 rfl ?_
      refine j_get (v := .ref aS) (pc' := 42) C KX8 0 10 rfl (by decide) fl_X8_19 rfl rfl dX8_wishes_39 rfl ?_
      refine j_iconst (v := (nI 0)) (pc' := 43) C dX8_wishes_42 rfl (by decide +kernel) ?_
      refine j_iload_n (pc' := 44) C dX8_wishes_43 rfl 2 rfl ?_
      refine j_iadd (v := (nI j)) (pc' := 45) C dX8_wishes_44 rfl (add_0I j) ?_
      refine j_iload_n (pc' := 46) C dX8_wishes_45 rfl 3 rfl ?_
      refine j_nast (pc' := 47) C [(a0, .inr (8, [.int (nI 0), .ref aX, .int ty, .int sp, .int tk, .int pl, .int va, .int fa, .ref aT, .ref aD, .ref aS, .ref aU, .int (nI (nN n + 1)), .ref aK, .ref aI, .ref aL, .ref aE, .ref aF, .int sm, .ref aP, .ref aW, .int sn, .ref aB, .ref aM])), (aT, .inl (cyI, 42, .inl (nA t))), (aS, .inl (cyI, 30, .inl (nA (uN s j q)))), (aU, .inl (cyI, 300, .inl (nA (nU u s n))))] 2 rfl (by omega) (by decide) dX8_wishes_46 rfl rfl ?_
      refine j_iload_n (pc' := 48) C dX8_wishes_47 rfl 0 rfl ?_
      exact j_iret C hr hk hA dX8_wishes_48 (rfl) (⟨_, _, _, rfl, by unfold wiQ; rw [if_neg (by simp_all), nI_clamp (by omega), nI_clamp (by omega)]⟩)
    · rw [in_R2 _ _ (by omega)] at c20
      refine j_iconst (v := (-1)) (pc' := 24) C dX8_wishes_23 rfl (by decide +kernel) ?_
      exact j_iret C hr hk hA dX8_wishes_24 (rfl) (⟨s, u, n, rfl, by unfold wiQ; rw [if_pos (by simp_all)]⟩)

set_option maxHeartbeats 4000000 in
set_option maxRecDepth 100000 in
theorem c_X8_cures {lch : Launch} {dG : va_G} {cyI cyZ cyO : ClassId} (a0 : Nat) (th : Int32) (aX : Nat) (ty : Int32) (sp : Int32) (tk : Int32) (pl : Int32) (va : Int32) (fa : Int32) (aT : Nat) (aD : Nat) (aS : Nat) (aU : Nat) (aK : Nat) (aI : Nat) (aL : Nat) (aE : Nat) (aF : Nat) (sm : Int32) (aP : Nat) (aW : Nat) (sn : Int32) (aB : Nat) (aM : Nat) (t : Nat → Nat) (s : Nat → Nat) (u : Nat → Nat) (n : Nat) (cc : Int32) (kd : Int32) (b : Int32) (hT : WT t) (hn : n ≤ 10) (hS : WS s) : Ki lch yX8_cures cX8_cures 5 .int (rmk 3) dG (cyI, cyZ, cyO) [.ref a0, .int cc, .int kd, .int b] [(a0, .inr (8, [.int th, .ref aX, .int ty, .int sp, .int tk, .int pl, .int va, .int fa, .ref aT, .ref aD, .ref aS, .ref aU, .int (nI n), .ref aK, .ref aI, .ref aL, .ref aE, .ref aF, .int sm, .ref aP, .ref aW, .int sn, .ref aB, .ref aM])), (aT, .inl (cyI, 42, .inl (nA t))), (aS, .inl (cyI, 30, .inl (nA s))), (aU, .inl (cyI, 300, .inl (nA u)))] (fun r w1 => ∃ (s1 : Nat → Nat), ∃ (u1 : Nat → Nat), ∃ (n1 : Nat), w1 = [(a0, .inr (8, [.int (nI 0), .ref aX, .int ty, .int sp, .int tk, .int pl, .int va, .int fa, .ref aT, .ref aD, .ref aS, .ref aU, .int (nI n1), .ref aK, .ref aI, .ref aL, .ref aE, .ref aF, .int sm, .ref aP, .ref aW, .int sn, .ref aB, .ref aM])), (aT, .inl (cyI, 42, .inl (nA t))), (aS, .inl (cyI, 30, .inl (nA s1))), (aU, .inl (cyI, 300, .inl (nA u1)))] ∧ (r, s1, u1, n1) = cuQ t s u n cc kd b) := by
  have h1 := hT.n
  refine Ki.of (own := RX8) rfl (by decide) (Nat.le_of_ble_eq_true rfl) (fun p0 e0 s0 m0 ar0 be0 me0 cd0 A0 C hr hk hnm hA => ?_)
  refine j_lsub [(0, .ref a0), (1, .int cc), (2, .int kd), (3, .int b)] [0, 1, 2, 3] rfl ?_
  refine j_aload_n (pc' := 1) C dX8_cures_0 rfl 0 rfl ?_
  refine j_iconst (v := (nI 0)) (pc' := 2) C dX8_cures_1 rfl (by decide +kernel) ?_
  refine j_put (pc' := 5) C [(a0, .inr (8, [.int (nI 0), .ref aX, .int ty, .int sp, .int tk, .int pl, .int va, .int fa, .ref aT, .ref aD, .ref aS, .ref aU, .int (nI n), .ref aK, .ref aI, .ref aL, .ref aE, .ref aF, .int sm, .ref aP, .ref aW, .int sn, .ref aB, .ref aM])), (aT, .inl (cyI, 42, .inl (nA t))), (aS, .inl (cyI, 30, .inl (nA s))), (aU, .inl (cyI, 300, .inl (nA u)))] KX8 0 0 rfl (by decide) fl_X8_59 rfl rfl rfl rfl (Nat.le_of_ble_eq_true rfl) dX8_cures_2 rfl rfl ?_
  refine j_aload_n (pc' := 6) C dX8_cures_5 rfl 0 rfl ?_
  refine j_iload_n (pc' := 7) C dX8_cures_6 rfl 1 rfl ?_
  refine j_cVi (As := [.int cc]) (wr := [(aS, .inl (cyI, 30, .inl (nA s))), (aU, .inl (cyI, 300, .inl (nA u)))]) (pc' := 10) C (c_X8_isContact (a0 := a0) (th := (nI 0)) (aX := aX) (ty := ty) (sp := sp) (tk := tk) (pl := pl) (va := va) (fa := fa) (aT := aT) (aD := aD) (aS := aS) (aU := aU) (um := (nI n)) (aK := aK) (aI := aI) (aL := aL) (aE := aE) (aF := aF) (sm := sm) (aP := aP) (aW := aW) (sn := sn) (aB := aB) (aM := aM) (t := t) (v := cc) (hT := by first | assumption | omega)) Y_X8_isContact (ml_X8_147) [0, 1] [2, 3] rfl rfl rfl rfl (by decide) rfl rfl rfl dX8_cures_7 rfl rfl rfl (Nat.le_of_ble_eq_true rfl) ⟨Nat.le_of_ble_eq_true rfl, Nat.le_of_ble_eq_true rfl⟩ ⟨Nat.le_of_ble_eq_true rfl, Nat.le_of_ble_eq_true rfl⟩ ⟨rfl, rfl⟩ (fun r1 w1 hQ => ?_)
  obtain ⟨rfl, rfl⟩ := hQ
  refine j_perm [(a0, .inr (8, [.int (nI 0), .ref aX, .int ty, .int sp, .int tk, .int pl, .int va, .int fa, .ref aT, .ref aD, .ref aS, .ref aU, .int (nI n), .ref aK, .ref aI, .ref aL, .ref aE, .ref aF, .int sm, .ref aP, .ref aW, .int sn, .ref aB, .ref aM])), (aT, .inl (cyI, 42, .inl (nA t))), (aS, .inl (cyI, 30, .inl (nA s))), (aU, .inl (cyI, 300, .inl (nA u)))] [2, 3, 0, 1] rfl rfl (by decide) ?_
  refine j_b_eq (pc' := 13) C 40 dX8_cures_10 (by decide) rfl (fun c10 => ?_) (fun c10 => ?_)
  · refine j_iconst (v := (-1)) (pc' := 41) C dX8_cures_40 rfl (by decide +kernel) ?_
    exact j_iret C hr hk hA dX8_cures_41 (rfl) (⟨s, u, n, rfl, by unfold cuQ; rw [if_pos (by simp_all)]⟩)
  · obtain ⟨j, hj, rfl⟩ := inR_t c10 (by omega)
    have h3 := hS.c (c := j) (by omega)
    refine j_iload_n (pc' := 14) C dX8_cures_13 rfl 2 rfl ?_
    refine j_iconst (v := (nI 0)) (pc' := 15) C dX8_cures_14 rfl (by decide +kernel) ?_
    refine j_iconst (v := (nI 4)) (pc' := 16) C dX8_cures_15 rfl (by decide +kernel) ?_
    refine j_cSi (As := [.int kd, .int (nI 0), .int (nI 4)]) (wr := [(a0, .inr (8, [.int (nI 0), .ref aX, .int ty, .int sp, .int tk, .int pl, .int va, .int fa, .ref aT, .ref aD, .ref aS, .ref aU, .int (nI n), .ref aK, .ref aI, .ref aL, .ref aE, .ref aF, .int sm, .ref aP, .ref aW, .int sn, .ref aB, .ref aM])), (aT, .inl (cyI, 42, .inl (nA t))), (aS, .inl (cyI, 30, .inl (nA s))), (aU, .inl (cyI, 300, .inl (nA u)))]) (pc' := 19) C (c_X8_in (x := kd) (a := (nI 0)) (b := (nI 4)) ) Y_X8_in (ml_X8_63) [] [0, 1, 2, 3] rfl rfl rfl rfl (by decide) dX8_cures_16 rfl rfl rfl (Nat.le_of_ble_eq_true rfl) ⟨Nat.le_of_ble_eq_true rfl, Nat.le_of_ble_eq_true rfl⟩ ⟨Nat.le_of_ble_eq_true rfl, Nat.le_of_ble_eq_true rfl⟩ ⟨rfl, rfl⟩ (fun r2 w1 hQ => ?_)
    obtain ⟨rfl, rfl⟩ := hQ
    refine j_perm [(a0, .inr (8, [.int (nI 0), .ref aX, .int ty, .int sp, .int tk, .int pl, .int va, .int fa, .ref aT, .ref aD, .ref aS, .ref aU, .int (nI n), .ref aK, .ref aI, .ref aL, .ref aE, .ref aF, .int sm, .ref aP, .ref aW, .int sn, .ref aB, .ref aM])), (aT, .inl (cyI, 42, .inl (nA t))), (aS, .inl (cyI, 30, .inl (nA s))), (aU, .inl (cyI, 300, .inl (nA u)))] [0, 1, 2, 3] rfl rfl (by decide) ?_
    refine j_b_eq (pc' := 22) C 40 dX8_cures_19 (by decide) rfl (fun c19 => ?_) (fun c19 => ?_)
    · rw [in_R2 _ _ (by omega)] at c19
      refine j_iconst (v := (-1)) (pc' := 41) C dX8_cures_40 rfl (by decide +kernel) ?_
      exact j_iret C hr hk hA dX8_cures_41 (rfl) (⟨s, u, n, rfl, by unfold cuQ; rw [if_pos (by simp_all)]⟩)
    · rw [in_R2 _ _ (by omega)] at c19
      obtain ⟨q, hq, rfl⟩ := inR_t c19 (by omega)
      refine j_iload_n (pc' := 23) C dX8_cures_22 rfl 3 rfl ?_
      refine j_iconst (v := (nI 0)) (pc' := 24) C dX8_cures_23 rfl (by decide +kernel) ?_
      refine j_iload_n (pc' := 25) C dX8_cures_24 rfl 2 rfl ?_
      refine j_iconst (v := (nI 2)) (pc' := 26) C dX8_cures_25 rfl (by decide +kernel) ?_
      refine j_nc_ge (pc' := 29) C 33 dX8_cures_26 (by decide) rfl (by omega) (by omega) (fun c26 => ?_) (fun c26 => ?_)
      · refine j_iconst (v := (nI 0)) (pc' := 34) C dX8_cures_33 rfl (by decide +kernel) ?_
        refine j_cSi (As := [.int b, .int (nI 0), .int (nI 0)]) (wr := [(a0, .inr (8, [.int (nI 0), .ref aX, .int ty, .int sp, .int tk, .int pl, .int va, .int fa, .ref aT, .ref aD, .ref aS, .ref aU, .int (nI n), .ref aK, .ref aI, .ref aL, .ref aE, .ref aF, .int sm, .ref aP, .ref aW, .int sn, .ref aB, .ref aM])), (aT, .inl (cyI, 42, .inl (nA t))), (aS, .inl (cyI, 30, .inl (nA s))), (aU, .inl (cyI, 300, .inl (nA u)))]) (pc' := 37) C (c_X8_in (x := b) (a := (nI 0)) (b := (nI 0)) ) Y_X8_in (ml_X8_63) [] [0, 1, 2, 3] rfl rfl rfl rfl (by decide) dX8_cures_34 rfl rfl rfl (Nat.le_of_ble_eq_true rfl) ⟨Nat.le_of_ble_eq_true rfl, Nat.le_of_ble_eq_true rfl⟩ ⟨Nat.le_of_ble_eq_true rfl, Nat.le_of_ble_eq_true rfl⟩ ⟨rfl, rfl⟩ (fun r3 w1 hQ => ?_)
        obtain ⟨rfl, rfl⟩ := hQ
        refine j_perm [(a0, .inr (8, [.int (nI 0), .ref aX, .int ty, .int sp, .int tk, .int pl, .int va, .int fa, .ref aT, .ref aD, .ref aS, .ref aU, .int (nI n), .ref aK, .ref aI, .ref aL, .ref aE, .ref aF, .int sm, .ref aP, .ref aW, .int sn, .ref aB, .ref aM])), (aT, .inl (cyI, 42, .inl (nA t))), (aS, .inl (cyI, 30, .inl (nA s))), (aU, .inl (cyI, 300, .inl (nA u)))] [0, 1, 2, 3] rfl rfl (by decide) ?_
        refine j_b_ne (pc' := 40) C 42 dX8_cures_37 (by decide) rfl (fun c37 => ?_) (fun c37 => ?_)
        · rw [in_R2 _ _ (by omega)] at c37
          obtain ⟨y, hy, rfl⟩ := inR_t c37 (by omega)
          refine j_aload_n (pc' := 43) C dX8_cures_42 rfl 0 rfl ?_
          refine j_get (v := .ref aS) (pc' := 46) C KX8 0 10 rfl (by decide) fl_X8_19 rfl rfl dX8_cures_43 rfl ?_
          refine j_iconst (v := (nI 3)) (pc' := 47) C dX8_cures_46 rfl (by decide +kernel) ?_
          refine j_iload_n (pc' := 48) C dX8_cures_47 rfl 1 rfl ?_
          refine j_iadd (v := (nI (3 + j))) (pc' := 49) C dX8_cures_48 rfl (nI_add 3 j) ?_
          refine j_nald (pc' := 50) C 2 rfl (by omega) (by decide) dX8_cures_49 rfl ?_
          refine j_istore (pc' := 52) C [(4, .int (nI (s (3 + j)))), (0, .ref a0), (1, .int (nI j)), (2, .int (nI q)), (3, .int (nI y))] dX8_cures_50 rfl (by decide) rfl ?_
          refine j_iload (pc' := 54) C dX8_cures_52 rfl 0 rfl ?_
          refine j_iload_n (pc' := 55) C dX8_cures_54 rfl 3 rfl ?_
          refine j_nc_ne (pc' := 58) C 74 dX8_cures_55 (by decide) rfl (by omega) (by omega) (fun c55 => ?_) (fun c55 => ?_)
          · refine j_aload_n (pc' := 75) C dX8_cures_74 rfl 1 rfl ?_
            refine j_cVv (As := []) (wr := [(aT, .inl (cyI, 42, .inl (nA t)))]) (pc' := 78) C (c_X8_notes (a0 := a0) (th := (nI 0)) (aX := aX) (ty := ty) (sp := sp) (tk := tk) (pl := pl) (va := va) (fa := fa) (aT := aT) (aD := aD) (aS := aS) (aU := aU) (aK := aK) (aI := aI) (aL := aL) (aE := aE) (aF := aF) (sm := sm) (aP := aP) (aW := aW) (sn := sn) (aB := aB) (aM := aM) (s := s) (u := u) (n := n) (hn := by first | assumption | omega)) Y_X8_notes (ml_X8_157) [0, 2, 3] [1] rfl rfl rfl rfl (by decide) rfl rfl rfl dX8_cures_75 rfl rfl rfl (Nat.le_of_ble_eq_true rfl) ⟨Nat.le_of_ble_eq_true rfl, Nat.le_of_ble_eq_true rfl⟩ ⟨Nat.le_of_ble_eq_true rfl, Nat.le_of_ble_eq_true rfl⟩ ⟨rfl, rfl⟩ (fun w1 hQ => ?_)
            obtain rfl := hQ
            refine j_perm [(a0, .inr (8, [.int (nI 0), .ref aX, .int ty, .int sp, .int tk, .int pl, .int va, .int fa, .ref aT, .ref aD, .ref aS, .ref aU, .int (nI (nN n + 1)), .ref aK, .ref aI, .ref aL, .ref aE, .ref aF, .int sm, .ref aP, .ref aW, .int sn, .ref aB, .ref aM])), (aT, .inl (cyI, 42, .inl (nA t))), (aS, .inl (cyI, 30, .inl (nA s))), (aU, .inl (cyI, 300, .inl (nA (nU u s n))))] [1, 0, 2, 3] rfl rfl (by decide) ?_
            refine j_aload_n (pc' := 79) C dX8_cures_78 rfl 1 rfl ?_
            refine j_get (v := .ref aS) (pc' := 82) C KX8 0 10 rfl (by decide) fl_X8_19 rfl rfl dX8_cures_79 rfl ?_
            refine j_iconst (v := (nI 3)) (pc' := 83) C dX8_cures_82 rfl (by decide +kernel) ?_
            refine j_iload_n (pc' := 84) C dX8_cures_83 rfl 2 rfl ?_
            refine j_iadd (v := (nI (3 + j))) (pc' := 85) C dX8_cures_84 rfl (nI_add 3 j) ?_
            refine j_iload_n (pc' := 86) C dX8_cures_85 rfl 3 rfl ?_
            refine j_nast (pc' := 87) C [(a0, .inr (8, [.int (nI 0), .ref aX, .int ty, .int sp, .int tk, .int pl, .int va, .int fa, .ref aT, .ref aD, .ref aS, .ref aU, .int (nI (nN n + 1)), .ref aK, .ref aI, .ref aL, .ref aE, .ref aF, .int sm, .ref aP, .ref aW, .int sn, .ref aB, .ref aM])), (aT, .inl (cyI, 42, .inl (nA t))), (aS, .inl (cyI, 30, .inl (nA (uN s (3 + j) q)))), (aU, .inl (cyI, 300, .inl (nA (nU u s n))))] 2 rfl (by omega) (by decide) dX8_cures_86 rfl rfl ?_
            refine j_aload_n (pc' := 88) C dX8_cures_87 rfl 1 rfl ?_
            refine j_get (v := .ref aS) (pc' := 91) C KX8 0 10 rfl (by decide) fl_X8_19 rfl rfl dX8_cures_88 rfl ?_
            refine j_bipush (v := (nI 12)) (pc' := 93) C dX8_cures_91 rfl (by decide +kernel) ?_
            refine j_iload_n (pc' := 94) C dX8_cures_93 rfl 2 rfl ?_
            refine j_iadd (v := (nI (12 + j))) (pc' := 95) C dX8_cures_94 rfl (nI_add 12 j) ?_
            refine j_iload_n (pc' := 96) C dX8_cures_95 rfl 4 rfl ?_
            refine j_nast (pc' := 97) C [(a0, .inr (8, [.int (nI 0), .ref aX, .int ty, .int sp, .int tk, .int pl, .int va, .int fa, .ref aT, .ref aD, .ref aS, .ref aU, .int (nI (nN n + 1)), .ref aK, .ref aI, .ref aL, .ref aE, .ref aF, .int sm, .ref aP, .ref aW, .int sn, .ref aB, .ref aM])), (aT, .inl (cyI, 42, .inl (nA t))), (aS, .inl (cyI, 30, .inl (nA (uN (uN s (3 + j) q) (12 + j) y)))), (aU, .inl (cyI, 300, .inl (nA (nU u s n))))] 2 rfl (by omega) (by decide) dX8_cures_96 rfl rfl ?_
            refine j_iload (pc' := 99) C dX8_cures_97 rfl 0 rfl ?_
            exact j_iret C hr hk hA dX8_cures_99 (rfl) (⟨_, _, _, rfl, by unfold cuQ; rw [nI_toInt (n := q) (by omega)]; (first | rw [if_pos (show (q : Int) < 2 by omega)] | rw [if_neg (show ¬ (q : Int) < 2 by omega)]); rw [if_neg (by simp_all), nI_clamp (by omega), nI_clamp (by omega), nI_clamp (by omega), if_neg (by simp_all)]⟩)
          · refine j_aload_n (pc' := 59) C dX8_cures_58 rfl 1 rfl ?_
            refine j_get (v := .ref aS) (pc' := 62) C KX8 0 10 rfl (by decide) fl_X8_19 rfl rfl dX8_cures_59 rfl ?_
            refine j_bipush (v := (nI 12)) (pc' := 64) C dX8_cures_62 rfl (by decide +kernel) ?_
            refine j_iload_n (pc' := 65) C dX8_cures_64 rfl 2 rfl ?_
            refine j_iadd (v := (nI (12 + j))) (pc' := 66) C dX8_cures_65 rfl (nI_add 12 j) ?_
            refine j_nald (pc' := 67) C 2 rfl (by omega) (by decide) dX8_cures_66 rfl ?_
            refine j_iload_n (pc' := 68) C dX8_cures_67 rfl 4 rfl ?_
            refine j_nc_ne (pc' := 71) C 74 dX8_cures_68 (by decide) rfl (by omega) (by omega) (fun c68 => ?_) (fun c68 => ?_)
            · refine j_aload_n (pc' := 75) C dX8_cures_74 rfl 1 rfl ?_
              refine j_cVv (As := []) (wr := [(aT, .inl (cyI, 42, .inl (nA t)))]) (pc' := 78) C (c_X8_notes (a0 := a0) (th := (nI 0)) (aX := aX) (ty := ty) (sp := sp) (tk := tk) (pl := pl) (va := va) (fa := fa) (aT := aT) (aD := aD) (aS := aS) (aU := aU) (aK := aK) (aI := aI) (aL := aL) (aE := aE) (aF := aF) (sm := sm) (aP := aP) (aW := aW) (sn := sn) (aB := aB) (aM := aM) (s := s) (u := u) (n := n) (hn := by first | assumption | omega)) Y_X8_notes (ml_X8_157) [0, 2, 3] [1] rfl rfl rfl rfl (by decide) rfl rfl rfl dX8_cures_75 rfl rfl rfl (Nat.le_of_ble_eq_true rfl) ⟨Nat.le_of_ble_eq_true rfl, Nat.le_of_ble_eq_true rfl⟩ ⟨Nat.le_of_ble_eq_true rfl, Nat.le_of_ble_eq_true rfl⟩ ⟨rfl, rfl⟩ (fun w1 hQ => ?_)
              obtain rfl := hQ
              refine j_perm [(a0, .inr (8, [.int (nI 0), .ref aX, .int ty, .int sp, .int tk, .int pl, .int va, .int fa, .ref aT, .ref aD, .ref aS, .ref aU, .int (nI (nN n + 1)), .ref aK, .ref aI, .ref aL, .ref aE, .ref aF, .int sm, .ref aP, .ref aW, .int sn, .ref aB, .ref aM])), (aT, .inl (cyI, 42, .inl (nA t))), (aS, .inl (cyI, 30, .inl (nA s))), (aU, .inl (cyI, 300, .inl (nA (nU u s n))))] [1, 0, 2, 3] rfl rfl (by decide) ?_
              refine j_aload_n (pc' := 79) C dX8_cures_78 rfl 1 rfl ?_
              refine j_get (v := .ref aS) (pc' := 82) C KX8 0 10 rfl (by decide) fl_X8_19 rfl rfl dX8_cures_79 rfl ?_
              refine j_iconst (v := (nI 3)) (pc' := 83) C dX8_cures_82 rfl (by decide +kernel) ?_
              refine j_iload_n (pc' := 84) C dX8_cures_83 rfl 2 rfl ?_
              refine j_iadd (v := (nI (3 + j))) (pc' := 85) C dX8_cures_84 rfl (nI_add 3 j) ?_
              refine j_iload_n (pc' := 86) C dX8_cures_85 rfl 3 rfl ?_
              refine j_nast (pc' := 87) C [(a0, .inr (8, [.int (nI 0), .ref aX, .int ty, .int sp, .int tk, .int pl, .int va, .int fa, .ref aT, .ref aD, .ref aS, .ref aU, .int (nI (nN n + 1)), .ref aK, .ref aI, .ref aL, .ref aE, .ref aF, .int sm, .ref aP, .ref aW, .int sn, .ref aB, .ref aM])), (aT, .inl (cyI, 42, .inl (nA t))), (aS, .inl (cyI, 30, .inl (nA (uN s (3 + j) q)))), (aU, .inl (cyI, 300, .inl (nA (nU u s n))))] 2 rfl (by omega) (by decide) dX8_cures_86 rfl rfl ?_
              refine j_aload_n (pc' := 88) C dX8_cures_87 rfl 1 rfl ?_
              refine j_get (v := .ref aS) (pc' := 91) C KX8 0 10 rfl (by decide) fl_X8_19 rfl rfl dX8_cures_88 rfl ?_
              refine j_bipush (v := (nI 12)) (pc' := 93) C dX8_cures_91 rfl (by decide +kernel) ?_
              refine j_iload_n (pc' := 94) C dX8_cures_93 rfl 2 rfl ?_
              refine j_iadd (v := (nI (12 + j))) (pc' := 95) C dX8_cures_94 rfl (nI_add 12 j) ?_
              refine j_iload_n (pc' := 96) C dX8_cures_95 rfl 4 rfl ?_
              refine j_nast (pc' := 97) C [(a0, .inr (8, [.int (nI 0), .ref aX, .int ty, .int sp, .int tk, .int pl, .int va, .int fa, .ref aT, .ref aD, .ref aS, .ref aU, .int (nI (nN n + 1)), .ref aK, .ref aI, .ref aL, .ref aE, .ref aF, .int sm, .ref aP, .ref aW, .int sn, .ref aB, .ref aM])), (aT, .inl (cyI, 42, .inl (nA t))), (aS, .inl (cyI, 30, .inl (nA (uN (uN s (3 + j) q) (12 + j) y)))), (aU, .inl (cyI, 300, .inl (nA (nU u s n))))] 2 rfl (by omega) (by decide) dX8_cures_96 rfl rfl ?_
              refine j_iload (pc' := 99) C dX8_cures_97 rfl 0 rfl ?_
              exact j_iret C hr hk hA dX8_cures_99 (rfl) (⟨_, _, _, rfl, by unfold cuQ; rw [nI_toInt (n := q) (by omega)]; (first | rw [if_pos (show (q : Int) < 2 by omega)] | rw [if_neg (show ¬ (q : Int) < 2 by omega)]); rw [if_neg (by simp_all), nI_clamp (by omega), nI_clamp (by omega), nI_clamp (by omega), if_neg (by simp_all)]⟩)
            · refine j_bipush (v := (-2)) (pc' := 73) C dX8_cures_71 rfl (by decide +kernel) ?_
              exact j_iret C hr hk hA dX8_cures_73 (rfl) (⟨s, u, n, rfl, by unfold cuQ; rw [nI_toInt (n := q) (by omega)]; (first | rw [if_pos (show (q : Int) < 2 by omega)] | rw [if_neg (show ¬ (q : Int) < 2 by omega)]); rw [if_neg (by simp_all), nI_clamp (by omega), nI_clamp (by omega), nI_clamp (by omega), if_pos ⟨c55, c68⟩]⟩)
        · rw [in_R2 _ _ (by omega)] at c37
          refine j_iconst (v := (-1)) (pc' := 41) C dX8_cures_40 rfl (by decide +kernel) ?_
          exact j_iret C hr hk hA dX8_cures_41 (rfl) (⟨s, u, n, rfl, by unfold cuQ; rw [nI_toInt (n := q) (by omega)]; (first | rw [if_pos (show (q : Int) < 2 by omega)] | rw [if_neg (show ¬ (q : Int) < 2 by omega)]); rw [if_pos (by simp_all)]⟩)
      · refine j_iconst (v := (nI 3)) (pc' := 30) C dX8_cures_29 rfl (by decide +kernel) ?_
        refine j_goto C 34 dX8_cures_30 (by decide) ?_
        refine j_cSi (As := [.int b, .int (nI 0), .int (nI 3)]) (wr := [(a0, .inr (8, [.int (nI 0), .ref aX, .int ty, .int sp, .int tk, .int pl, .int va, .int fa, .ref aT, .ref aD, .ref aS, .ref aU, .int (nI n), .ref aK, .ref aI, .ref aL, .ref aE, .ref aF, .int sm, .ref aP, .ref aW, .int sn, .ref aB, .ref aM])), (aT, .inl (cyI, 42, .inl (nA t))), (aS, .inl (cyI, 30, .inl (nA s))), (aU, .inl (cyI, 300, .inl (nA u)))]) (pc' := 37) C (c_X8_in (x := b) (a := (nI 0)) (b := (nI 3)) ) Y_X8_in (ml_X8_63) [] [0, 1, 2, 3] rfl rfl rfl rfl (by decide) dX8_cures_34 rfl rfl rfl (Nat.le_of_ble_eq_true rfl) ⟨Nat.le_of_ble_eq_true rfl, Nat.le_of_ble_eq_true rfl⟩ ⟨Nat.le_of_ble_eq_true rfl, Nat.le_of_ble_eq_true rfl⟩ ⟨rfl, rfl⟩ (fun r6 w1 hQ => ?_)
        obtain ⟨rfl, rfl⟩ := hQ
        refine j_perm [(a0, .inr (8, [.int (nI 0), .ref aX, .int ty, .int sp, .int tk, .int pl, .int va, .int fa, .ref aT, .ref aD, .ref aS, .ref aU, .int (nI n), .ref aK, .ref aI, .ref aL, .ref aE, .ref aF, .int sm, .ref aP, .ref aW, .int sn, .ref aB, .ref aM])), (aT, .inl (cyI, 42, .inl (nA t))), (aS, .inl (cyI, 30, .inl (nA s))), (aU, .inl (cyI, 300, .inl (nA u)))] [0, 1, 2, 3] rfl rfl (by decide) ?_
        refine j_b_ne (pc' := 40) C 42 dX8_cures_37 (by decide) rfl (fun c37 => ?_) (fun c37 => ?_)
        · rw [in_R2 _ _ (by omega)] at c37
          obtain ⟨y, hy, rfl⟩ := inR_t c37 (by omega)
          refine j_aload_n (pc' := 43) C dX8_cures_42 rfl 0 rfl ?_
          refine j_get (v := .ref aS) (pc' := 46) C KX8 0 10 rfl (by decide) fl_X8_19 rfl rfl dX8_cures_43 rfl ?_
          refine j_iconst (v := (nI 3)) (pc' := 47) C dX8_cures_46 rfl (by decide +kernel) ?_
          refine j_iload_n (pc' := 48) C dX8_cures_47 rfl 1 rfl ?_
          refine j_iadd (v := (nI (3 + j))) (pc' := 49) C dX8_cures_48 rfl (nI_add 3 j) ?_
          refine j_nald (pc' := 50) C 2 rfl (by omega) (by decide) dX8_cures_49 rfl ?_
          refine j_istore (pc' := 52) C [(4, .int (nI (s (3 + j)))), (0, .ref a0), (1, .int (nI j)), (2, .int (nI q)), (3, .int (nI y))] dX8_cures_50 rfl (by decide) rfl ?_
          refine j_iload (pc' := 54) C dX8_cures_52 rfl 0 rfl ?_
          refine j_iload_n (pc' := 55) C dX8_cures_54 rfl 3 rfl ?_
          refine j_nc_ne (pc' := 58) C 74 dX8_cures_55 (by decide) rfl (by omega) (by omega) (fun c55 => ?_) (fun c55 => ?_)
          · refine j_aload_n (pc' := 75) C dX8_cures_74 rfl 1 rfl ?_
            refine j_cVv (As := []) (wr := [(aT, .inl (cyI, 42, .inl (nA t)))]) (pc' := 78) C (c_X8_notes (a0 := a0) (th := (nI 0)) (aX := aX) (ty := ty) (sp := sp) (tk := tk) (pl := pl) (va := va) (fa := fa) (aT := aT) (aD := aD) (aS := aS) (aU := aU) (aK := aK) (aI := aI) (aL := aL) (aE := aE) (aF := aF) (sm := sm) (aP := aP) (aW := aW) (sn := sn) (aB := aB) (aM := aM) (s := s) (u := u) (n := n) (hn := by first | assumption | omega)) Y_X8_notes (ml_X8_157) [0, 2, 3] [1] rfl rfl rfl rfl (by decide) rfl rfl rfl dX8_cures_75 rfl rfl rfl (Nat.le_of_ble_eq_true rfl) ⟨Nat.le_of_ble_eq_true rfl, Nat.le_of_ble_eq_true rfl⟩ ⟨Nat.le_of_ble_eq_true rfl, Nat.le_of_ble_eq_true rfl⟩ ⟨rfl, rfl⟩ (fun w1 hQ => ?_)
            obtain rfl := hQ
            refine j_perm [(a0, .inr (8, [.int (nI 0), .ref aX, .int ty, .int sp, .int tk, .int pl, .int va, .int fa, .ref aT, .ref aD, .ref aS, .ref aU, .int (nI (nN n + 1)), .ref aK, .ref aI, .ref aL, .ref aE, .ref aF, .int sm, .ref aP, .ref aW, .int sn, .ref aB, .ref aM])), (aT, .inl (cyI, 42, .inl (nA t))), (aS, .inl (cyI, 30, .inl (nA s))), (aU, .inl (cyI, 300, .inl (nA (nU u s n))))] [1, 0, 2, 3] rfl rfl (by decide) ?_
            refine j_aload_n (pc' := 79) C dX8_cures_78 rfl 1 rfl ?_
            refine j_get (v := .ref aS) (pc' := 82) C KX8 0 10 rfl (by decide) fl_X8_19 rfl rfl dX8_cures_79 rfl ?_
            refine j_iconst (v := (nI 3)) (pc' := 83) C dX8_cures_82 rfl (by decide +kernel) ?_
            refine j_iload_n (pc' := 84) C dX8_cures_83 rfl 2 rfl ?_
            refine j_iadd (v := (nI (3 + j))) (pc' := 85) C dX8_cures_84 rfl (nI_add 3 j) ?_
            refine j_iload_n (pc' := 86) C dX8_cures_85 rfl 3 rfl ?_
            refine j_nast (pc' := 87) C [(a0, .inr (8, [.int (nI 0), .ref aX, .int ty, .int sp, .int tk, .int pl, .int va, .int fa, .ref aT, .ref aD, .ref aS, .ref aU, .int (nI (nN n + 1)), .ref aK, .ref aI, .ref aL, .ref aE, .ref aF, .int sm, .ref aP, .ref aW, .int sn, .ref aB, .ref aM])), (aT, .inl (cyI, 42, .inl (nA t))), (aS, .inl (cyI, 30, .inl (nA (uN s (3 + j) q)))), (aU, .inl (cyI, 300, .inl (nA (nU u s n))))] 2 rfl (by omega) (by decide) dX8_cures_86 rfl rfl ?_
            refine j_aload_n (pc' := 88) C dX8_cures_87 rfl 1 rfl ?_
            refine j_get (v := .ref aS) (pc' := 91) C KX8 0 10 rfl (by decide) fl_X8_19 rfl rfl dX8_cures_88 rfl ?_
            refine j_bipush (v := (nI 12)) (pc' := 93) C dX8_cures_91 rfl (by decide +kernel) ?_
            refine j_iload_n (pc' := 94) C dX8_cures_93 rfl 2 rfl ?_
            refine j_iadd (v := (nI (12 + j))) (pc' := 95) C dX8_cures_94 rfl (nI_add 12 j) ?_
            refine j_iload_n (pc' := 96) C dX8_cures_95 rfl 4 rfl ?_
            refine j_nast (pc' := 97) C [(a0, .inr (8, [.int (nI 0), .ref aX, .int ty, .int sp, .int tk, .int pl, .int va, .int fa, .ref aT, .ref aD, .ref aS, .ref aU, .int (nI (nN n + 1)), .ref aK, .ref aI, .ref aL, .ref aE, .ref aF, .int sm, .ref aP, .ref aW, .int sn, .ref aB, .ref aM])), (aT, .inl (cyI, 42, .inl (nA t))), (aS, .inl (cyI, 30, .inl (nA (uN (uN s (3 + j) q) (12 + j) y)))), (aU, .inl (cyI, 300, .inl (nA (nU u s n))))] 2 rfl (by omega) (by decide) dX8_cures_96 rfl rfl ?_
            refine j_iload (pc' := 99) C dX8_cures_97 rfl 0 rfl ?_
            exact j_iret C hr hk hA dX8_cures_99 (rfl) (⟨_, _, _, rfl, by unfold cuQ; rw [nI_toInt (n := q) (by omega)]; (first | rw [if_pos (show (q : Int) < 2 by omega)] | rw [if_neg (show ¬ (q : Int) < 2 by omega)]); rw [if_neg (by simp_all), nI_clamp (by omega), nI_clamp (by omega), nI_clamp (by omega), if_neg (by simp_all)]⟩)
          · refine j_aload_n (pc' := 59) C dX8_cures_58 rfl 1 rfl ?_
            refine j_get (v := .ref aS) (pc' := 62) C KX8 0 10 rfl (by decide) fl_X8_19 rfl rfl dX8_cures_59 rfl ?_
            refine j_bipush (v := (nI 12)) (pc' := 64) C dX8_cures_62 rfl (by decide +kernel) ?_
            refine j_iload_n (pc' := 65) C dX8_cures_64 rfl 2 rfl ?_
            refine j_iadd (v := (nI (12 + j))) (pc' := 66) C dX8_cures_65 rfl (nI_add 12 j) ?_
            refine j_nald (pc' := 67) C 2 rfl (by omega) (by decide) dX8_cures_66 rfl ?_
            refine j_iload_n (pc' := 68) C dX8_cures_67 rfl 4 rfl ?_
            refine j_nc_ne (pc' := 71) C 74 dX8_cures_68 (by decide) rfl (by omega) (by omega) (fun c68 => ?_) (fun c68 => ?_)
            · refine j_aload_n (pc' := 75) C dX8_cures_74 rfl 1 rfl ?_
              refine j_cVv (As := []) (wr := [(aT, .inl (cyI, 42, .inl (nA t)))]) (pc' := 78) C (c_X8_notes (a0 := a0) (th := (nI 0)) (aX := aX) (ty := ty) (sp := sp) (tk := tk) (pl := pl) (va := va) (fa := fa) (aT := aT) (aD := aD) (aS := aS) (aU := aU) (aK := aK) (aI := aI) (aL := aL) (aE := aE) (aF := aF) (sm := sm) (aP := aP) (aW := aW) (sn := sn) (aB := aB) (aM := aM) (s := s) (u := u) (n := n) (hn := by first | assumption | omega)) Y_X8_notes (ml_X8_157) [0, 2, 3] [1] rfl rfl rfl rfl (by decide) rfl rfl rfl dX8_cures_75 rfl rfl rfl (Nat.le_of_ble_eq_true rfl) ⟨Nat.le_of_ble_eq_true rfl, Nat.le_of_ble_eq_true rfl⟩ ⟨Nat.le_of_ble_eq_true rfl, Nat.le_of_ble_eq_true rfl⟩ ⟨rfl, rfl⟩ (fun w1 hQ => ?_)
              obtain rfl := hQ
              refine j_perm [(a0, .inr (8, [.int (nI 0), .ref aX, .int ty, .int sp, .int tk, .int pl, .int va, .int fa, .ref aT, .ref aD, .ref aS, .ref aU, .int (nI (nN n + 1)), .ref aK, .ref aI, .ref aL, .ref aE, .ref aF, .int sm, .ref aP, .ref aW, .int sn, .ref aB, .ref aM])), (aT, .inl (cyI, 42, .inl (nA t))), (aS, .inl (cyI, 30, .inl (nA s))), (aU, .inl (cyI, 300, .inl (nA (nU u s n))))] [1, 0, 2, 3] rfl rfl (by decide) ?_
              refine j_aload_n (pc' := 79) C dX8_cures_78 rfl 1 rfl ?_
              refine j_get (v := .ref aS) (pc' := 82) C KX8 0 10 rfl (by decide) fl_X8_19 rfl rfl dX8_cures_79 rfl ?_
              refine j_iconst (v := (nI 3)) (pc' := 83) C dX8_cures_82 rfl (by decide +kernel) ?_
              refine j_iload_n (pc' := 84) C dX8_cures_83 rfl 2 rfl ?_
              refine j_iadd (v := (nI (3 + j))) (pc' := 85) C dX8_cures_84 rfl (nI_add 3 j) ?_
              refine j_iload_n (pc' := 86) C dX8_cures_85 rfl 3 rfl ?_
              refine j_nast (pc' := 87) C [(a0, .inr (8, [.int (nI 0), .ref aX, .int ty, .int sp, .int tk, .int pl, .int va, .int fa, .ref aT, .ref aD, .ref aS, .ref aU, .int (nI (nN n + 1)), .ref aK, .ref aI, .ref aL, .ref aE, .ref aF, .int sm, .ref aP, .ref aW, .int sn, .ref aB, .ref aM])), (aT, .inl (cyI, 42, .inl (nA t))), (aS, .inl (cyI, 30, .inl (nA (uN s (3 + j) q)))), (aU, .inl (cyI, 300, .inl (nA (nU u s n))))] 2 rfl (by omega) (by decide) dX8_cures_86 rfl rfl ?_
              refine j_aload_n (pc' := 88) C dX8_cures_87 rfl 1 rfl ?_
              refine j_get (v := .ref aS) (pc' := 91) C KX8 0 10 rfl (by decide) fl_X8_19 rfl rfl dX8_cures_88 rfl ?_
              refine j_bipush (v := (nI 12)) (pc' := 93) C dX8_cures_91 rfl (by decide +kernel) ?_
              refine j_iload_n (pc' := 94) C dX8_cures_93 rfl 2 rfl ?_
              refine j_iadd (v := (nI (12 + j))) (pc' := 95) C dX8_cures_94 rfl (nI_add 12 j) ?_
              refine j_iload_n (pc' := 96) C dX8_cures_95 rfl 4 rfl ?_
              refine j_nast (pc' := 97) C [(a0, .inr (8, [.int (nI 0), .ref aX, .int ty, .int sp, .int tk, .int pl, .int va, .int fa, .ref aT, .ref aD, .ref aS, .ref aU, .int (nI (nN n + 1)), .ref aK, .ref aI, .ref aL, .ref aE, .ref aF, .int sm, .ref aP, .ref aW, .int sn, .ref aB, .ref aM])), (aT, .inl (cyI, 42, .inl (nA t))), (aS, .inl (cyI, 30, .inl (nA (uN (uN s (3 + j) q) (12 + j) y)))), (aU, .inl (cyI, 300, .inl (nA (nU u s n))))] 2 rfl (by omega) (by decide) dX8_cures_96 rfl rfl ?_
              refine j_iload (pc' := 99) C dX8_cures_97 rfl 0 rfl ?_
              exact j_iret C hr hk hA dX8_cures_99 (rfl) (⟨_, _, _, rfl, by unfold cuQ; rw [nI_toInt (n := q) (by omega)]; (first | rw [if_pos (show (q : Int) < 2 by omega)] | rw [if_neg (show ¬ (q : Int) < 2 by omega)]); rw [if_neg (by simp_all), nI_clamp (by omega), nI_clamp (by omega), nI_clamp (by omega), if_neg (by simp_all)]⟩)
            · refine j_bipush (v := (-2)) (pc' := 73) C dX8_cures_71 rfl (by decide +kernel) ?_
              exact j_iret C hr hk hA dX8_cures_73 (rfl) (⟨s, u, n, rfl, by unfold cuQ; rw [nI_toInt (n := q) (by omega)]; (first | rw [if_pos (show (q : Int) < 2 by omega)] | rw [if_neg (show ¬ (q : Int) < 2 by omega)]); rw [if_neg (by simp_all), nI_clamp (by omega), nI_clamp (by omega), nI_clamp (by omega), if_pos ⟨c55, c68⟩]⟩)
        · rw [in_R2 _ _ (by omega)] at c37
          refine j_iconst (v := (-1)) (pc' := 41) C dX8_cures_40 rfl (by decide +kernel) ?_
          exact j_iret C hr hk hA dX8_cures_41 (rfl) (⟨s, u, n, rfl, by unfold cuQ; rw [nI_toInt (n := q) (by omega)]; (first | rw [if_pos (show (q : Int) < 2 by omega)] | rw [if_neg (show ¬ (q : Int) < 2 by omega)]); rw [if_pos (by simp_all)]⟩)

set_option maxHeartbeats 4000000 in
set_option maxRecDepth 100000 in
theorem c_X8_sticks {lch : Launch} {dG : va_G} {cyI cyZ cyO : ClassId} (a0 : Nat) (th : Int32) (aX : Nat) (ty : Int32) (sp : Int32) (tk : Int32) (pl : Int32) (va : Int32) (fa : Int32) (aT : Nat) (aD : Nat) (aS : Nat) (aU : Nat) (aK : Nat) (aI : Nat) (aL : Nat) (aE : Nat) (aF : Nat) (sm : Int32) (aP : Nat) (aW : Nat) (sn : Int32) (aB : Nat) (aM : Nat) (t : Nat → Nat) (s : Nat → Nat) (u : Nat → Nat) (n : Nat) (cc : Int32) (hw : Int32) (hT : WT t) (hn : n ≤ 10) (hS : WS s) : Ki lch yX8_sticks cX8_sticks 4 .int (rmk 3) dG (cyI, cyZ, cyO) [.ref a0, .int cc, .int hw] [(a0, .inr (8, [.int th, .ref aX, .int ty, .int sp, .int tk, .int pl, .int va, .int fa, .ref aT, .ref aD, .ref aS, .ref aU, .int (nI n), .ref aK, .ref aI, .ref aL, .ref aE, .ref aF, .int sm, .ref aP, .ref aW, .int sn, .ref aB, .ref aM])), (aT, .inl (cyI, 42, .inl (nA t))), (aS, .inl (cyI, 30, .inl (nA s))), (aU, .inl (cyI, 300, .inl (nA u)))] (fun r w1 => ∃ (s1 : Nat → Nat), ∃ (u1 : Nat → Nat), ∃ (n1 : Nat), w1 = [(a0, .inr (8, [.int (nI 0), .ref aX, .int ty, .int sp, .int tk, .int pl, .int va, .int fa, .ref aT, .ref aD, .ref aS, .ref aU, .int (nI n1), .ref aK, .ref aI, .ref aL, .ref aE, .ref aF, .int sm, .ref aP, .ref aW, .int sn, .ref aB, .ref aM])), (aT, .inl (cyI, 42, .inl (nA t))), (aS, .inl (cyI, 30, .inl (nA s1))), (aU, .inl (cyI, 300, .inl (nA u1)))] ∧ (r, s1, u1, n1) = skQ t s u n cc hw) := by
  have h1 := hT.n
  refine Ki.of (own := RX8) rfl (by decide) (Nat.le_of_ble_eq_true rfl) (fun p0 e0 s0 m0 ar0 be0 me0 cd0 A0 C hr hk hnm hA => ?_)
  refine j_lsub [(0, .ref a0), (1, .int cc), (2, .int hw)] [0, 1, 2] rfl ?_
  refine j_aload_n (pc' := 1) C dX8_sticks_0 rfl 0 rfl ?_
  refine j_iconst (v := (nI 0)) (pc' := 2) C dX8_sticks_1 rfl (by decide +kernel) ?_
  refine j_put (pc' := 5) C [(a0, .inr (8, [.int (nI 0), .ref aX, .int ty, .int sp, .int tk, .int pl, .int va, .int fa, .ref aT, .ref aD, .ref aS, .ref aU, .int (nI n), .ref aK, .ref aI, .ref aL, .ref aE, .ref aF, .int sm, .ref aP, .ref aW, .int sn, .ref aB, .ref aM])), (aT, .inl (cyI, 42, .inl (nA t))), (aS, .inl (cyI, 30, .inl (nA s))), (aU, .inl (cyI, 300, .inl (nA u)))] KX8 0 0 rfl (by decide) fl_X8_59 rfl rfl rfl rfl (Nat.le_of_ble_eq_true rfl) dX8_sticks_2 rfl rfl ?_
  refine j_aload_n (pc' := 6) C dX8_sticks_5 rfl 0 rfl ?_
  refine j_iload_n (pc' := 7) C dX8_sticks_6 rfl 1 rfl ?_
  refine j_cVi (As := [.int cc]) (wr := [(aS, .inl (cyI, 30, .inl (nA s))), (aU, .inl (cyI, 300, .inl (nA u)))]) (pc' := 10) C (c_X8_isContact (a0 := a0) (th := (nI 0)) (aX := aX) (ty := ty) (sp := sp) (tk := tk) (pl := pl) (va := va) (fa := fa) (aT := aT) (aD := aD) (aS := aS) (aU := aU) (um := (nI n)) (aK := aK) (aI := aI) (aL := aL) (aE := aE) (aF := aF) (sm := sm) (aP := aP) (aW := aW) (sn := sn) (aB := aB) (aM := aM) (t := t) (v := cc) (hT := by first | assumption | omega)) Y_X8_isContact (ml_X8_147) [0, 1] [2, 3] rfl rfl rfl rfl (by decide) rfl rfl rfl dX8_sticks_7 rfl rfl rfl (Nat.le_of_ble_eq_true rfl) ⟨Nat.le_of_ble_eq_true rfl, Nat.le_of_ble_eq_true rfl⟩ ⟨Nat.le_of_ble_eq_true rfl, Nat.le_of_ble_eq_true rfl⟩ ⟨rfl, rfl⟩ (fun r1 w1 hQ => ?_)
  obtain ⟨rfl, rfl⟩ := hQ
  refine j_perm [(a0, .inr (8, [.int (nI 0), .ref aX, .int ty, .int sp, .int tk, .int pl, .int va, .int fa, .ref aT, .ref aD, .ref aS, .ref aU, .int (nI n), .ref aK, .ref aI, .ref aL, .ref aE, .ref aF, .int sm, .ref aP, .ref aW, .int sn, .ref aB, .ref aM])), (aT, .inl (cyI, 42, .inl (nA t))), (aS, .inl (cyI, 30, .inl (nA s))), (aU, .inl (cyI, 300, .inl (nA u)))] [2, 3, 0, 1] rfl rfl (by decide) ?_
  refine j_b_eq (pc' := 13) C 22 dX8_sticks_10 (by decide) rfl (fun c10 => ?_) (fun c10 => ?_)
  · refine j_iconst (v := (-1)) (pc' := 23) C dX8_sticks_22 rfl (by decide +kernel) ?_
    exact j_iret C hr hk hA dX8_sticks_23 (rfl) (⟨s, u, n, rfl, by unfold skQ; rw [if_pos (by simp_all)]⟩)
  · obtain ⟨j, hj, rfl⟩ := inR_t c10 (by omega)
    have h3 := hS.c (c := j) (by omega)
    refine j_iload_n (pc' := 14) C dX8_sticks_13 rfl 2 rfl ?_
    refine j_iconst (v := (nI 0)) (pc' := 15) C dX8_sticks_14 rfl (by decide +kernel) ?_
    refine j_iconst (v := (nI 2)) (pc' := 16) C dX8_sticks_15 rfl (by decide +kernel) ?_
    refine j_cSi (As := [.int hw, .int (nI 0), .int (nI 2)]) (wr := [(a0, .inr (8, [.int (nI 0), .ref aX, .int ty, .int sp, .int tk, .int pl, .int va, .int fa, .ref aT, .ref aD, .ref aS, .ref aU, .int (nI n), .ref aK, .ref aI, .ref aL, .ref aE, .ref aF, .int sm, .ref aP, .ref aW, .int sn, .ref aB, .ref aM])), (aT, .inl (cyI, 42, .inl (nA t))), (aS, .inl (cyI, 30, .inl (nA s))), (aU, .inl (cyI, 300, .inl (nA u)))]) (pc' := 19) C (c_X8_in (x := hw) (a := (nI 0)) (b := (nI 2)) ) Y_X8_in (ml_X8_63) [] [0, 1, 2, 3] rfl rfl rfl rfl (by decide) dX8_sticks_16 rfl rfl rfl (Nat.le_of_ble_eq_true rfl) ⟨Nat.le_of_ble_eq_true rfl, Nat.le_of_ble_eq_true rfl⟩ ⟨Nat.le_of_ble_eq_true rfl, Nat.le_of_ble_eq_true rfl⟩ ⟨rfl, rfl⟩ (fun r2 w1 hQ => ?_)
    obtain ⟨rfl, rfl⟩ := hQ
    refine j_perm [(a0, .inr (8, [.int (nI 0), .ref aX, .int ty, .int sp, .int tk, .int pl, .int va, .int fa, .ref aT, .ref aD, .ref aS, .ref aU, .int (nI n), .ref aK, .ref aI, .ref aL, .ref aE, .ref aF, .int sm, .ref aP, .ref aW, .int sn, .ref aB, .ref aM])), (aT, .inl (cyI, 42, .inl (nA t))), (aS, .inl (cyI, 30, .inl (nA s))), (aU, .inl (cyI, 300, .inl (nA u)))] [0, 1, 2, 3] rfl rfl (by decide) ?_
    refine j_b_ne (pc' := 22) C 24 dX8_sticks_19 (by decide) rfl (fun c19 => ?_) (fun c19 => ?_)
    · rw [in_R2 _ _ (by omega)] at c19
      obtain ⟨q, hq, rfl⟩ := inR_t c19 (by omega)
      refine j_aload_n (pc' := 25) C dX8_sticks_24 rfl 0 rfl ?_
      refine j_get (v := .ref aS) (pc' := 28) C KX8 0 10 rfl (by decide) fl_X8_19 rfl rfl dX8_sticks_25 rfl ?_
      refine j_bipush (v := (nI 21)) (pc' := 30) C dX8_sticks_28 rfl (by decide +kernel) ?_
      refine j_iload_n (pc' := 31) C dX8_sticks_30 rfl 1 rfl ?_
      refine j_iadd (v := (nI (21 + j))) (pc' := 32) C dX8_sticks_31 rfl (nI_add 21 j) ?_
      refine j_nald (pc' := 33) C 2 rfl (by omega) (by decide) dX8_sticks_32 rfl ?_
      refine j_istore_n (pc' := 34) C [(3, .int (nI (s (21 + j)))), (0, .ref a0), (1, .int (nI j)), (2, .int (nI q))] dX8_sticks_33 rfl (by decide) rfl ?_
      refine j_iload_n (pc' := 35) C dX8_sticks_34 rfl 0 rfl ?_
      refine j_iload_n (pc' := 36) C dX8_sticks_35 rfl 3 rfl ?_
      refine j_nc_ne (pc' := 39) C 42 dX8_sticks_36 (by decide) rfl (by omega) (by omega) (fun c36 => ?_) (fun c36 => ?_)
      · refine j_aload_n (pc' := 43) C dX8_sticks_42 rfl 1 rfl ?_
        refine j_cVv (As := []) (wr := [(aT, .inl (cyI, 42, .inl (nA t)))]) (pc' := 46) C (c_X8_notes (a0 := a0) (th := (nI 0)) (aX := aX) (ty := ty) (sp := sp) (tk := tk) (pl := pl) (va := va) (fa := fa) (aT := aT) (aD := aD) (aS := aS) (aU := aU) (aK := aK) (aI := aI) (aL := aL) (aE := aE) (aF := aF) (sm := sm) (aP := aP) (aW := aW) (sn := sn) (aB := aB) (aM := aM) (s := s) (u := u) (n := n) (hn := by first | assumption | omega)) Y_X8_notes (ml_X8_157) [0, 2, 3] [1] rfl rfl rfl rfl (by decide) rfl rfl rfl dX8_sticks_43 rfl rfl rfl (Nat.le_of_ble_eq_true rfl) ⟨Nat.le_of_ble_eq_true rfl, Nat.le_of_ble_eq_true rfl⟩ ⟨Nat.le_of_ble_eq_true rfl, Nat.le_of_ble_eq_true rfl⟩ ⟨rfl, rfl⟩ (fun w1 hQ => ?_)
        obtain rfl := hQ
        refine j_perm [(a0, .inr (8, [.int (nI 0), .ref aX, .int ty, .int sp, .int tk, .int pl, .int va, .int fa, .ref aT, .ref aD, .ref aS, .ref aU, .int (nI (nN n + 1)), .ref aK, .ref aI, .ref aL, .ref aE, .ref aF, .int sm, .ref aP, .ref aW, .int sn, .ref aB, .ref aM])), (aT, .inl (cyI, 42, .inl (nA t))), (aS, .inl (cyI, 30, .inl (nA s))), (aU, .inl (cyI, 300, .inl (nA (nU u s n))))] [1, 0, 2, 3] rfl rfl (by decide) ?_
        refine j_aload_n (pc' := 47) C dX8_sticks_46 rfl 1 rfl ?_
        refine j_get (v := .ref aS) (pc' := 50) C KX8 0 10 rfl (by decide) fl_X8_19 rfl rfl dX8_sticks_47 rfl ?_
        refine j_bipush (v := (nI 21)) (pc' := 52) C dX8_sticks_50 rfl (by decide +kernel) ?_
        refine j_iload_n (pc' := 53) C dX8_sticks_52 rfl 2 rfl ?_
        refine j_iadd (v := (nI (21 + j))) (pc' := 54) C dX8_sticks_53 rfl (nI_add 21 j) ?_
        refine j_iload_n (pc' := 55) C dX8_sticks_54 rfl 3 rfl ?_
        refine j_nast (pc' := 56) C [(a0, .inr (8, [.int (nI 0), .ref aX, .int ty, .int sp, .int tk, .int pl, .int va, .int fa, .ref aT, .ref aD, .ref aS, .ref aU, .int (nI (nN n + 1)), .ref aK, .ref aI, .ref aL, .ref aE, .ref aF, .int sm, .ref aP, .ref aW, .int sn, .ref aB, .ref aM])), (aT, .inl (cyI, 42, .inl (nA t))), (aS, .inl (cyI, 30, .inl (nA (uN s (21 + j) q)))), (aU, .inl (cyI, 300, .inl (nA (nU u s n))))] 2 rfl (by omega) (by decide) dX8_sticks_55 rfl rfl ?_
        refine j_iload_n (pc' := 57) C dX8_sticks_56 rfl 0 rfl ?_
        exact j_iret C hr hk hA dX8_sticks_57 (rfl) (⟨_, _, _, rfl, by unfold skQ; rw [if_neg (by simp_all), nI_clamp (by omega), nI_clamp (by omega), if_neg c36]⟩)
      · refine j_bipush (v := (-2)) (pc' := 41) C dX8_sticks_39 rfl (by decide +kernel) ?_
        exact j_iret C hr hk hA dX8_sticks_41 (rfl) (⟨s, u, n, rfl, by unfold skQ; rw [if_neg (by simp_all), nI_clamp (by omega), nI_clamp (by omega), if_pos c36]⟩)
    · rw [in_R2 _ _ (by omega)] at c19
      refine j_iconst (v := (-1)) (pc' := 23) C dX8_sticks_22 rfl (by decide +kernel) ?_
      exact j_iret C hr hk hA dX8_sticks_23 (rfl) (⟨s, u, n, rfl, by unfold skQ; rw [if_pos (by simp_all)]⟩)

set_option maxHeartbeats 4000000 in
set_option maxRecDepth 100000 in
theorem c_X8_undo {lch : Launch} {dG : va_G} {cyI cyZ cyO : ClassId} (a0 : Nat) (th : Int32) (aX : Nat) (ty : Int32) (sp : Int32) (tk : Int32) (pl : Int32) (va : Int32) (fa : Int32) (aT : Nat) (aD : Nat) (aS : Nat) (aU : Nat) (aK : Nat) (aI : Nat) (aL : Nat) (aE : Nat) (aF : Nat) (sm : Int32) (aP : Nat) (aW : Nat) (sn : Int32) (aB : Nat) (aM : Nat) (s : Nat → Nat) (u : Nat → Nat) (n : Nat) (hn : n ≤ 10) : Ki lch yX8_undo cX8_undo 2 .int (rmk 1) dG (cyI, cyZ, cyO) [.ref a0] [(a0, .inr (8, [.int th, .ref aX, .int ty, .int sp, .int tk, .int pl, .int va, .int fa, .ref aT, .ref aD, .ref aS, .ref aU, .int (nI n), .ref aK, .ref aI, .ref aL, .ref aE, .ref aF, .int sm, .ref aP, .ref aW, .int sn, .ref aB, .ref aM])), (aS, .inl (cyI, 30, .inl (nA s))), (aU, .inl (cyI, 300, .inl (nA u)))] (fun r w1 => ∃ (s1 : Nat → Nat), ∃ (n1 : Nat), w1 = [(a0, .inr (8, [.int (nI 0), .ref aX, .int ty, .int sp, .int tk, .int pl, .int va, .int fa, .ref aT, .ref aD, .ref aS, .ref aU, .int (nI n1), .ref aK, .ref aI, .ref aL, .ref aE, .ref aF, .int sm, .ref aP, .ref aW, .int sn, .ref aB, .ref aM])), (aS, .inl (cyI, 30, .inl (nA s1))), (aU, .inl (cyI, 300, .inl (nA u)))] ∧ (r, s1, n1) = unQ s u n) := by
  refine Ki.of (own := RX8) rfl (by decide) (Nat.le_of_ble_eq_true rfl) (fun p0 e0 s0 m0 ar0 be0 me0 cd0 A0 C hr hk hnm hA => ?_)
  refine j_lsub [(0, .ref a0)] [0] rfl ?_
  refine j_aload_n (pc' := 1) C dX8_undo_0 rfl 0 rfl ?_
  refine j_iconst (v := (nI 0)) (pc' := 2) C dX8_undo_1 rfl (by decide +kernel) ?_
  refine j_put (pc' := 5) C [(a0, .inr (8, [.int (nI 0), .ref aX, .int ty, .int sp, .int tk, .int pl, .int va, .int fa, .ref aT, .ref aD, .ref aS, .ref aU, .int (nI n), .ref aK, .ref aI, .ref aL, .ref aE, .ref aF, .int sm, .ref aP, .ref aW, .int sn, .ref aB, .ref aM])), (aS, .inl (cyI, 30, .inl (nA s))), (aU, .inl (cyI, 300, .inl (nA u)))] KX8 0 0 rfl (by decide) fl_X8_59 rfl rfl rfl rfl (Nat.le_of_ble_eq_true rfl) dX8_undo_2 rfl rfl ?_
  refine j_aload_n (pc' := 6) C dX8_undo_5 rfl 0 rfl ?_
  refine j_get (v := .int (nI n)) (pc' := 9) C KX8 0 12 rfl (by decide) fl_X8_127 rfl rfl dX8_undo_6 rfl ?_
  refine j_nz_ne (pc' := 12) C 15 dX8_undo_9 (by decide) rfl (by omega) (fun c9 => ?_) (fun c9 => ?_)
  · refine j_aload_n (pc' := 16) C dX8_undo_15 rfl 0 rfl ?_
    refine j_dup (pc' := 17) C dX8_undo_16 rfl rfl ?_
    refine j_get (v := .int (nI n)) (pc' := 20) C KX8 0 12 rfl (by decide) fl_X8_127 rfl rfl dX8_undo_17 rfl ?_
    refine j_iconst (v := (nI 1)) (pc' := 21) C dX8_undo_20 rfl (by decide +kernel) ?_
    refine j_isub (v := (nI (n - 1))) (pc' := 22) C dX8_undo_21 rfl (pk_sub (by omega)) ?_
    refine j_put (pc' := 25) C [(a0, .inr (8, [.int (nI 0), .ref aX, .int ty, .int sp, .int tk, .int pl, .int va, .int fa, .ref aT, .ref aD, .ref aS, .ref aU, .int (nI (n - 1)), .ref aK, .ref aI, .ref aL, .ref aE, .ref aF, .int sm, .ref aP, .ref aW, .int sn, .ref aB, .ref aM])), (aS, .inl (cyI, 30, .inl (nA s))), (aU, .inl (cyI, 300, .inl (nA u)))] KX8 0 12 rfl (by decide) fl_X8_127 rfl rfl rfl rfl (Nat.le_of_ble_eq_true rfl) dX8_undo_22 rfl rfl ?_
    refine j_iconst (v := (nI 0)) (pc' := 26) C dX8_undo_25 rfl (by decide +kernel) ?_
    refine j_istore_n (pc' := 27) C [(1, .int (nI 0)), (0, .ref a0)] dX8_undo_26 rfl (by decide) rfl ?_
    refine j_lsub [(0, .ref a0), (1, .int (nI 0))] [1, 0] rfl ?_
    refine j_loop2 (fun (i : Nat) (y : Nat → Nat) => [(a0, .inr (8, [.int (nI 0), .ref aX, .int ty, .int sp, .int tk, .int pl, .int va, .int fa, .ref aT, .ref aD, .ref aS, .ref aU, .int (nI (n - 1)), .ref aK, .ref aI, .ref aL, .ref aE, .ref aF, .int sm, .ref aP, .ref aW, .int sn, .ref aB, .ref aM])), (aS, .inl (cyI, 30, .inl (nA y))), (aU, .inl (cyI, 300, .inl (nA u)))]) (fun (i : Nat) (y : Nat → Nat) => [(0, .ref a0), (1, .int (nI i))]) (fun (i : Nat) (y : Nat → Nat) => []) (fun (i : Nat) (y : Nat → Nat) => i ≤ 30 ∧ y = flN s (fun k => u (30 * (n - 1) + k)) 0 i) (fun (i : Nat) (y : Nat → Nat) => 30 - i) ?_ 0 s ?_
    · intro i y hI27 ih27
      obtain ⟨hi, hy⟩ := hI27
      refine j_iload_n (pc' := 28) C dX8_undo_27 rfl 1 rfl ?_
      refine j_bipush (v := (nI 30)) (pc' := 30) C dX8_undo_28 rfl (by decide +kernel) ?_
      refine j_nc_ge (pc' := 33) C 59 dX8_undo_30 (by decide) rfl (by omega) (by omega) (fun c30 => ?_) (fun c30 => ?_)
      · refine j_aload_n (pc' := 60) C dX8_undo_59 rfl 0 rfl ?_
        refine j_get (v := .int (nI (n - 1))) (pc' := 63) C KX8 0 12 rfl (by decide) fl_X8_127 rfl rfl dX8_undo_60 rfl ?_
        exact j_iret C hr hk hA dX8_undo_63 (rfl) (⟨_, _, rfl, by unfold unQ snp; rw [if_neg c9, hy, show i = 30 by omega]⟩)
      · refine j_aload_n (pc' := 34) C dX8_undo_33 rfl 0 rfl ?_
        refine j_get (v := .ref aS) (pc' := 37) C KX8 0 10 rfl (by decide) fl_X8_19 rfl rfl dX8_undo_34 rfl ?_
        refine j_iload_n (pc' := 38) C dX8_undo_37 rfl 1 rfl ?_
        refine j_aload_n (pc' := 39) C dX8_undo_38 rfl 0 rfl ?_
        refine j_get (v := .ref aU) (pc' := 42) C KX8 0 11 rfl (by decide) fl_X8_22 rfl rfl dX8_undo_39 rfl ?_
        refine j_bipush (v := (nI 30)) (pc' := 44) C dX8_undo_42 rfl (by decide +kernel) ?_
        refine j_aload_n (pc' := 45) C dX8_undo_44 rfl 0 rfl ?_
        refine j_get (v := .int (nI (n - 1))) (pc' := 48) C KX8 0 12 rfl (by decide) fl_X8_127 rfl rfl dX8_undo_45 rfl ?_
        refine j_imul (v := (nI (30 * (n - 1)))) (pc' := 49) C dX8_undo_48 rfl (pk_mul 30 (n - 1)) ?_
        refine j_iload_n (pc' := 50) C dX8_undo_49 rfl 1 rfl ?_
        refine j_iadd (v := (nI ((30 * (n - 1)) + i))) (pc' := 51) C dX8_undo_50 rfl (nI_add (30 * (n - 1)) i) ?_
        refine j_nald (pc' := 52) C 2 rfl (by omega) (by decide) dX8_undo_51 rfl ?_
        refine j_nast (pc' := 53) C [(a0, .inr (8, [.int (nI 0), .ref aX, .int ty, .int sp, .int tk, .int pl, .int va, .int fa, .ref aT, .ref aD, .ref aS, .ref aU, .int (nI (n - 1)), .ref aK, .ref aI, .ref aL, .ref aE, .ref aF, .int sm, .ref aP, .ref aW, .int sn, .ref aB, .ref aM])), (aS, .inl (cyI, 30, .inl (nA (uN y i (u ((30 * (n - 1)) + i)))))), (aU, .inl (cyI, 300, .inl (nA u)))] 1 rfl (by omega) (by decide) dX8_undo_52 rfl rfl ?_
        refine j_iinc (v := (nI (i + 1))) (pc' := 56) C [(1, .int (nI (i + 1))), (0, .ref a0)] dX8_undo_53 rfl 1 rfl (inc_n i 1) (by decide) rfl ?_
        refine j_goto C 27 dX8_undo_56 (by decide) ?_
        refine j_lsub [(0, .ref a0), (1, .int (nI (i + 1)))] [1, 0] rfl ?_
        exact ih27 (i + 1) (uN y i (u ((30 * (n - 1)) + i))) (⟨by omega, by rw [hy, ← flN_s]; simp only [Nat.zero_add]⟩) (by omega)
    · exact ⟨Nat.zero_le _, (flN_0 _ _ _).symm⟩
  · refine j_bipush (v := (-2)) (pc' := 14) C dX8_undo_12 rfl (by decide +kernel) ?_
    exact j_iret C hr hk hA dX8_undo_14 (rfl) (⟨s, n, rfl, by unfold unQ; rw [if_pos c9]⟩)
