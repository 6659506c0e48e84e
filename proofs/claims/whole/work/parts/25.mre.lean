theorem kdL_lt (v : Nat) : kdL v < 4 := by
  unfold kdL
  repeat' split
  all_goals decide

set_option maxHeartbeats 4000000 in
set_option maxRecDepth 100000 in
theorem c_X8_letterAt {lch : Launch} {dG : va_G} {cyI cyZ cyO : ClassId} (a0 : Nat) (th : Int32) (aX : Nat) (sp : Int32) (tk : Int32) (pl : Int32) (va : Int32) (fa : Int32) (aT : Nat) (aD : Nat) (aS : Nat) (aU : Nat) (um : Int32) (aK : Nat) (aI : Nat) (aL : Nat) (aE : Nat) (aF : Nat) (sm : Int32) (aP : Nat) (aW : Nat) (sn : Int32) (aB : Nat) (aM : Nat) (x : Nat → Nat) (n : Nat) (k : Nat) (hn : n ≤ 100) (hx : ∀ i, i < n → x i < 256) (hk2 : k ≤ 100) : Ki lch yX8_letterAt cX8_letterAt 2 .int (rmk 1) dG (cyI, cyZ, cyO) [.ref a0, .int (nI k)] [(a0, .inr (8, [.int th, .ref aX, .int (nI n), .int sp, .int tk, .int pl, .int va, .int fa, .ref aT, .ref aD, .ref aS, .ref aU, .int um, .ref aK, .ref aI, .ref aL, .ref aE, .ref aF, .int sm, .ref aP, .ref aW, .int sn, .ref aB, .ref aM])), (aX, .inl (cyI, 100, .inl (nA x)))] (fun r w1 => w1 = [(a0, .inr (8, [.int th, .ref aX, .int (nI n), .int sp, .int tk, .int pl, .int va, .int fa, .ref aT, .ref aD, .ref aS, .ref aU, .int um, .ref aK, .ref aI, .ref aL, .ref aE, .ref aF, .int sm, .ref aP, .ref aW, .int sn, .ref aB, .ref aM])), (aX, .inl (cyI, 100, .inl (nA x)))] ∧ ((k < n ∧ r = nI (x k)) ∨ (n ≤ k ∧ r = -1))) := by
  refine Ki.of (own := RX8) rfl (by decide) (Nat.le_of_ble_eq_true rfl) (fun p0 e0 s0 m0 ar0 be0 me0 cd0 A0 C hr hk hnm hA => ?_)
  refine j_lsub [(0, .ref a0), (1, .int (nI k))] [0, 1] rfl ?_
  refine j_iload_n (pc' := 1) C dX8_letterAt_0 rfl 1 rfl ?_
  refine j_aload_n (pc' := 2) C dX8_letterAt_1 rfl 0 rfl ?_
  refine j_get (v := .int (nI n)) (pc' := 5) C KX8 0 2 rfl (by decide) fl_X8_67 rfl rfl dX8_letterAt_2 rfl ?_
  refine j_nc_ge (pc' := 8) C 17 dX8_letterAt_5 (by decide) rfl (by omega) (by omega) (fun c5 => ?_) (fun c5 => ?_)
  · refine j_iconst (v := (-1)) (pc' := 18) C dX8_letterAt_17 rfl (by decide +kernel) ?_
    exact j_iret C hr hk hA dX8_letterAt_18 (rfl) (⟨rfl, Or.inr ⟨c5, rfl⟩⟩)
  · refine j_aload_n (pc' := 9) C dX8_letterAt_8 rfl 0 rfl ?_
    refine j_get (v := .ref aX) (pc' := 12) C KX8 0 1 rfl (by decide) fl_X8_7 rfl rfl dX8_letterAt_9 rfl ?_
    refine j_iload_n (pc' := 13) C dX8_letterAt_12 rfl 1 rfl ?_
    refine j_nald (pc' := 14) C 1 rfl (by omega) (by decide) dX8_letterAt_13 rfl ?_
    refine j_goto C 18 dX8_letterAt_14 (by decide) ?_
    exact j_iret C hr hk hA dX8_letterAt_18 (rfl) (⟨rfl, Or.inl ⟨c5, rfl⟩⟩)

set_option maxHeartbeats 4000000 in
set_option maxRecDepth 100000 in
theorem c_X8_isLetter {lch : Launch} {dG : va_G} {cyI cyZ cyO : ClassId} (v : Nat) (hv : v < 2147483648) : Ki lch yX8_isLetter cX8_isLetter 1 .boolean (rmk 1) dG (cyI, cyZ, cyO) [.int (nI v)] [] (fun r w1 => w1 = [] ∧ r = (bI (isL v))) := by
  refine Ki.of (own := RX8) rfl (by decide) (Nat.le_of_ble_eq_true rfl) (fun p0 e0 s0 m0 ar0 be0 me0 cd0 A0 C hr hk hnm hA => ?_)
  refine j_lsub [(0, .int (nI v))] [0] rfl ?_
  refine j_iload_n (pc' := 1) C dX8_isLetter_0 rfl 0 rfl ?_
  refine j_bipush (v := (nI 110)) (pc' := 3) C dX8_isLetter_1 rfl (by decide +kernel) ?_
  refine j_nc_eq (pc' := 6) C 36 dX8_isLetter_3 (by decide) rfl (by omega) (by omega) (fun c3 => ?_) (fun c3 => ?_)
  · refine j_iconst (v := (nI 1)) (pc' := 37) C dX8_isLetter_36 rfl (by decide +kernel) ?_
    refine j_goto C 41 dX8_isLetter_37 (by decide) ?_
    refine j_top (bI true) (by decide +kernel) ?_
    exact j_iret C hr hk hA dX8_isLetter_41 (nrw_bI _) (⟨rfl, by unfold isL; rw [decide_eq_true (by omega)]⟩)
  · refine j_iload_n (pc' := 7) C dX8_isLetter_6 rfl 0 rfl ?_
    refine j_bipush (v := (nI 111)) (pc' := 9) C dX8_isLetter_7 rfl (by decide +kernel) ?_
    refine j_nc_eq (pc' := 12) C 36 dX8_isLetter_9 (by decide) rfl (by omega) (by omega) (fun c9 => ?_) (fun c9 => ?_)
    · refine j_iconst (v := (nI 1)) (pc' := 37) C dX8_isLetter_36 rfl (by decide +kernel) ?_
      refine j_goto C 41 dX8_isLetter_37 (by decide) ?_
      refine j_top (bI true) (by decide +kernel) ?_
      exact j_iret C hr hk hA dX8_isLetter_41 (nrw_bI _) (⟨rfl, by unfold isL; rw [decide_eq_true (by omega)]⟩)
    · refine j_iload_n (pc' := 13) C dX8_isLetter_12 rfl 0 rfl ?_
      refine j_bipush (v := (nI 99)) (pc' := 15) C dX8_isLetter_13 rfl (by decide +kernel) ?_
      refine j_nc_eq (pc' := 18) C 36 dX8_isLetter_15 (by decide) rfl (by omega) (by omega) (fun c15 => ?_) (fun c15 => ?_)
      · refine j_iconst (v := (nI 1)) (pc' := 37) C dX8_isLetter_36 rfl (by decide +kernel) ?_
        refine j_goto C 41 dX8_isLetter_37 (by decide) ?_
        refine j_top (bI true) (by decide +kernel) ?_
        exact j_iret C hr hk hA dX8_isLetter_41 (nrw_bI _) (⟨rfl, by unfold isL; rw [decide_eq_true (by omega)]⟩)
      · refine j_iload_n (pc' := 19) C dX8_isLetter_18 rfl 0 rfl ?_
        refine j_bipush (v := (nI 119)) (pc' := 21) C dX8_isLetter_19 rfl (by decide +kernel) ?_
        refine j_nc_eq (pc' := 24) C 36 dX8_isLetter_21 (by decide) rfl (by omega) (by omega) (fun c21 => ?_) (fun c21 => ?_)
        · refine j_iconst (v := (nI 1)) (pc' := 37) C dX8_isLetter_36 rfl (by decide +kernel) ?_
          refine j_goto C 41 dX8_isLetter_37 (by decide) ?_
          refine j_top (bI true) (by decide +kernel) ?_
          exact j_iret C hr hk hA dX8_isLetter_41 (nrw_bI _) (⟨rfl, by unfold isL; rw [decide_eq_true (by omega)]⟩)
        · refine j_iload_n (pc' := 25) C dX8_isLetter_24 rfl 0 rfl ?_
          refine j_bipush (v := (nI 100)) (pc' := 27) C dX8_isLetter_25 rfl (by decide +kernel) ?_
          refine j_nc_eq (pc' := 30) C 36 dX8_isLetter_27 (by decide) rfl (by omega) (by omega) (fun c27 => ?_) (fun c27 => ?_)
          · refine j_iconst (v := (nI 1)) (pc' := 37) C dX8_isLetter_36 rfl (by decide +kernel) ?_
            refine j_goto C 41 dX8_isLetter_37 (by decide) ?_
            refine j_top (bI true) (by decide +kernel) ?_
            exact j_iret C hr hk hA dX8_isLetter_41 (nrw_bI _) (⟨rfl, by unfold isL; rw [decide_eq_true (by omega)]⟩)
          · refine j_iload_n (pc' := 31) C dX8_isLetter_30 rfl 0 rfl ?_
            refine j_bipush (v := (nI 108)) (pc' := 33) C dX8_isLetter_31 rfl (by decide +kernel) ?_
            refine j_nc_ne (pc' := 36) C 40 dX8_isLetter_33 (by decide) rfl (by omega) (by omega) (fun c33 => ?_) (fun c33 => ?_)
            · refine j_iconst (v := (nI 0)) (pc' := 41) C dX8_isLetter_40 rfl (by decide +kernel) ?_
              refine j_top (bI false) (by decide +kernel) ?_
              exact j_iret C hr hk hA dX8_isLetter_41 (nrw_bI _) (⟨rfl, by unfold isL; rw [decide_eq_false (by omega)]⟩)
            · refine j_iconst (v := (nI 1)) (pc' := 37) C dX8_isLetter_36 rfl (by decide +kernel) ?_
              refine j_goto C 41 dX8_isLetter_37 (by decide) ?_
              refine j_top (bI true) (by decide +kernel) ?_
              exact j_iret C hr hk hA dX8_isLetter_41 (nrw_bI _) (⟨rfl, by unfold isL; rw [decide_eq_true (by omega)]⟩)

set_option maxHeartbeats 4000000 in
set_option maxRecDepth 100000 in
theorem c_X8_inN {lch : Launch} {dG : va_G} {cyI cyZ cyO : ClassId} (x : Nat) (a : Nat) (b : Nat) (hxx : x < 2147483648) (haa : a < 2147483648) (hbb : b < 2147483648) : Ki lch yX8_in cX8_in 3 .boolean (rmk 1) dG (cyI, cyZ, cyO) [.int (nI x), .int (nI a), .int (nI b)] [] (fun r w1 => w1 = [] ∧ r = (bI (decide (a ≤ x ∧ x ≤ b)))) := by
  refine Ki.of (own := RX8) rfl (by decide) (Nat.le_of_ble_eq_true rfl) (fun p0 e0 s0 m0 ar0 be0 me0 cd0 A0 C hr hk hnm hA => ?_)
  refine j_lsub [(0, .int (nI x)), (1, .int (nI a)), (2, .int (nI b))] [0, 1, 2] rfl ?_
  refine j_iload_n (pc' := 1) C dX8_in_0 rfl 0 rfl ?_
  refine j_iload_n (pc' := 2) C dX8_in_1 rfl 1 rfl ?_
  refine j_nc_lt (pc' := 5) C 14 dX8_in_2 (by decide) rfl (by omega) (by omega) (fun c2 => ?_) (fun c2 => ?_)
  · refine j_iconst (v := (nI 0)) (pc' := 15) C dX8_in_14 rfl (by decide +kernel) ?_
    refine j_top (bI false) (by decide +kernel) ?_
    exact j_iret C hr hk hA dX8_in_15 (nrw_bI _) (⟨rfl, bI_f (by omega)⟩)
  · refine j_iload_n (pc' := 6) C dX8_in_5 rfl 0 rfl ?_
    refine j_iload_n (pc' := 7) C dX8_in_6 rfl 2 rfl ?_
    refine j_nc_gt (pc' := 10) C 14 dX8_in_7 (by decide) rfl (by omega) (by omega) (fun c7 => ?_) (fun c7 => ?_)
    · refine j_iconst (v := (nI 0)) (pc' := 15) C dX8_in_14 rfl (by decide +kernel) ?_
      refine j_top (bI false) (by decide +kernel) ?_
      exact j_iret C hr hk hA dX8_in_15 (nrw_bI _) (⟨rfl, bI_f (by omega)⟩)
    · refine j_iconst (v := (nI 1)) (pc' := 11) C dX8_in_10 rfl (by decide +kernel) ?_
      refine j_goto C 15 dX8_in_11 (by decide) ?_
      refine j_top (bI true) (by decide +kernel) ?_
      exact j_iret C hr hk hA dX8_in_15 (nrw_bI _) (⟨rfl, bI_t (by omega)⟩)

set_option maxHeartbeats 4000000 in
set_option maxRecDepth 100000 in
theorem c_X8_advances {lch : Launch} {dG : va_G} {cyI cyZ cyO : ClassId} (a0 : Nat) (th : Int32) (aX : Nat) (tk : Int32) (pl : Int32) (va : Int32) (fa : Int32) (aT : Nat) (aD : Nat) (aS : Nat) (aU : Nat) (um : Int32) (aK : Nat) (aI : Nat) (aL : Nat) (aE : Nat) (aF : Nat) (sm : Int32) (aP : Nat) (aW : Nat) (sn : Int32) (aB : Nat) (aM : Nat) (x : Nat → Nat) (n : Nat) (b0 : Nat) (hn : n ≤ 100) (hx : ∀ i, i < n → x i < 256) (hp : b0 ≤ n) : Kv lch yX8_advances cX8_advances 2 (rmk 2) dG (cyI, cyZ, cyO) [.ref a0] [(a0, .inr (8, [.int th, .ref aX, .int (nI n), .int (nI b0), .int tk, .int pl, .int va, .int fa, .ref aT, .ref aD, .ref aS, .ref aU, .int um, .ref aK, .ref aI, .ref aL, .ref aE, .ref aF, .int sm, .ref aP, .ref aW, .int sn, .ref aB, .ref aM])), (aX, .inl (cyI, 100, .inl (nA x)))] (fun w1 => ∃ (va1 : Int32), w1 = [(a0, .inr (8, [.int th, .ref aX, .int (nI n), .int (nI (tke x n b0)), .int (nI (tko x n b0)), .int (nI (skp x n b0)), .int va1, .int fa, .ref aT, .ref aD, .ref aS, .ref aU, .int um, .ref aK, .ref aI, .ref aL, .ref aE, .ref aF, .int sm, .ref aP, .ref aW, .int sn, .ref aB, .ref aM])), (aX, .inl (cyI, 100, .inl (nA x)))] ∧ VV x n b0 va1) := by
  refine Kv.of (own := RX8) rfl (by decide) (Nat.le_of_ble_eq_true rfl) (fun p0 e0 s0 m0 ar0 be0 me0 cd0 A0 C hr hk hnm hA => ?_)
  refine j_lsub [(0, .ref a0)] [0] rfl ?_
  refine j_lsub [(0, .ref a0)] [0] rfl ?_
  refine j_loop1 (fun (p : Nat) => [(a0, .inr (8, [.int th, .ref aX, .int (nI n), .int (nI p), .int tk, .int pl, .int va, .int fa, .ref aT, .ref aD, .ref aS, .ref aU, .int um, .ref aK, .ref aI, .ref aL, .ref aE, .ref aF, .int sm, .ref aP, .ref aW, .int sn, .ref aB, .ref aM])), (aX, .inl (cyI, 100, .inl (nA x)))]) (fun (p : Nat) => [(0, .ref a0)]) (fun (p : Nat) => []) (fun (p : Nat) => p ≤ n ∧ skp x n p = skp x n b0) (fun (p : Nat) => n - p) ?_ b0 ?_
  · intro p hI0 ih0
    obtain ⟨hp1, hp2⟩ := hI0
    refine j_aload_n (pc' := 1) C dX8_advances_0 rfl 0 rfl ?_
    refine j_aload_n (pc' := 2) C dX8_advances_1 rfl 0 rfl ?_
    refine j_get (v := .int (nI p)) (pc' := 5) C KX8 0 3 rfl (by decide) fl_X8_70 rfl rfl dX8_advances_2 rfl ?_
    refine j_cVi (As := [.int (nI p)]) (wr := []) (pc' := 8) C (c_X8_letterAt (a0 := a0) (th := th) (aX := aX) (sp := (nI p)) (tk := tk) (pl := pl) (va := va) (fa := fa) (aT := aT) (aD := aD) (aS := aS) (aU := aU) (um := um) (aK := aK) (aI := aI) (aL := aL) (aE := aE) (aF := aF) (sm := sm) (aP := aP) (aW := aW) (sn := sn) (aB := aB) (aM := aM) (x := x) (n := n) (k := p) (hn := by first | assumption | omega) (hx := by first | assumption | omega) (hk2 := by first | assumption | omega)) Y_X8_letterAt (ml_X8_73) [0, 1] [] rfl rfl rfl rfl (by decide) rfl rfl rfl dX8_advances_5 rfl rfl rfl (Nat.le_of_ble_eq_true rfl) ⟨Nat.le_of_ble_eq_true rfl, Nat.le_of_ble_eq_true rfl⟩ ⟨Nat.le_of_ble_eq_true rfl, Nat.le_of_ble_eq_true rfl⟩ ⟨rfl, rfl⟩ (fun r1 w1 hQ => ?_)
    obtain ⟨rfl, hF5⟩ := hQ
    rcases hF5 with ⟨hL2, rfl⟩ | ⟨hL2, rfl⟩
    · have hbL2 := hx _ hL2
      refine j_bipush (v := (nI 32)) (pc' := 10) C dX8_advances_8 rfl (by decide +kernel) ?_
      refine j_nc_ne (pc' := 13) C 26 dX8_advances_10 (by decide) rfl (by omega) (by omega) (fun c10 => ?_) (fun c10 => ?_)
      · refine j_aload_n (pc' := 27) C dX8_advances_26 rfl 0 rfl ?_
        refine j_aload_n (pc' := 28) C dX8_advances_27 rfl 0 rfl ?_
        refine j_get (v := .int (nI p)) (pc' := 31) C KX8 0 3 rfl (by decide) fl_X8_70 rfl rfl dX8_advances_28 rfl ?_
        refine j_put (pc' := 34) C [(a0, .inr (8, [.int th, .ref aX, .int (nI n), .int (nI p), .int tk, .int (nI p), .int va, .int fa, .ref aT, .ref aD, .ref aS, .ref aU, .int um, .ref aK, .ref aI, .ref aL, .ref aE, .ref aF, .int sm, .ref aP, .ref aW, .int sn, .ref aB, .ref aM])), (aX, .inl (cyI, 100, .inl (nA x)))] KX8 0 5 rfl (by decide) fl_X8_77 rfl rfl rfl rfl (Nat.le_of_ble_eq_true rfl) dX8_advances_31 rfl rfl ?_
        refine j_aload_n (pc' := 35) C dX8_advances_34 rfl 0 rfl ?_
        refine j_aload_n (pc' := 36) C dX8_advances_35 rfl 0 rfl ?_
        refine j_get (v := .int (nI p)) (pc' := 39) C KX8 0 3 rfl (by decide) fl_X8_70 rfl rfl dX8_advances_36 rfl ?_
        refine j_cVi (As := [.int (nI p)]) (wr := []) (pc' := 42) C (c_X8_letterAt (a0 := a0) (th := th) (aX := aX) (sp := (nI p)) (tk := tk) (pl := (nI p)) (va := va) (fa := fa) (aT := aT) (aD := aD) (aS := aS) (aU := aU) (um := um) (aK := aK) (aI := aI) (aL := aL) (aE := aE) (aF := aF) (sm := sm) (aP := aP) (aW := aW) (sn := sn) (aB := aB) (aM := aM) (x := x) (n := n) (k := p) (hn := by first | assumption | omega) (hx := by first | assumption | omega) (hk2 := by first | assumption | omega)) Y_X8_letterAt (ml_X8_73) [0, 1] [] rfl rfl rfl rfl (by decide) rfl rfl rfl dX8_advances_39 rfl rfl rfl (Nat.le_of_ble_eq_true rfl) ⟨Nat.le_of_ble_eq_true rfl, Nat.le_of_ble_eq_true rfl⟩ ⟨Nat.le_of_ble_eq_true rfl, Nat.le_of_ble_eq_true rfl⟩ ⟨rfl, rfl⟩ (fun r3 w1 hQ => ?_)
        obtain ⟨rfl, hF39⟩ := hQ
        rcases hF39 with ⟨hL4, rfl⟩ | ⟨hL4, rfl⟩
        · have hbL4 := hx _ hL4
          refine j_istore_n (pc' := 43) C [(1, .int (nI (x p))), (0, .ref a0)] dX8_advances_42 rfl (by decide) rfl ?_
          refine j_iload_n (pc' := 44) C dX8_advances_43 rfl 0 rfl ?_
          refine j_if_ge (pc' := 47) C 55 dX8_advances_44 (by decide) rfl (fun c44 => ?_) (fun c44 => ?_)
          · refine j_iload_n (pc' := 56) C dX8_advances_55 rfl 0 rfl ?_
            refine j_bipush (v := (nI 48)) (pc' := 58) C dX8_advances_56 rfl (by decide +kernel) ?_
            refine j_bipush (v := (nI 57)) (pc' := 60) C dX8_advances_58 rfl (by decide +kernel) ?_
            refine j_cSi (As := [.int (nI (x p)), .int (nI 48), .int (nI 57)]) (wr := [(a0, .inr (8, [.int th, .ref aX, .int (nI n), .int (nI p), .int tk, .int (nI p), .int va, .int fa, .ref aT, .ref aD, .ref aS, .ref aU, .int um, .ref aK, .ref aI, .ref aL, .ref aE, .ref aF, .int sm, .ref aP, .ref aW, .int sn, .ref aB, .ref aM])), (aX, .inl (cyI, 100, .inl (nA x)))]) (pc' := 63) C (c_X8_inN (x := x p) (a := 48) (b := 57) (hxx := by omega) (haa := by omega) (hbb := by omega)) Y_X8_in (ml_X8_63) [] [0, 1] rfl rfl rfl rfl (by decide) dX8_advances_60 rfl rfl rfl (Nat.le_of_ble_eq_true rfl) ⟨Nat.le_of_ble_eq_true rfl, Nat.le_of_ble_eq_true rfl⟩ ⟨Nat.le_of_ble_eq_true rfl, Nat.le_of_ble_eq_true rfl⟩ ⟨rfl, rfl⟩ (fun r5 w1 hQ => ?_)
            obtain ⟨rfl, rfl⟩ := hQ
            refine j_perm [(a0, .inr (8, [.int th, .ref aX, .int (nI n), .int (nI p), .int tk, .int (nI p), .int va, .int fa, .ref aT, .ref aD, .ref aS, .ref aU, .int um, .ref aK, .ref aI, .ref aL, .ref aE, .ref aF, .int sm, .ref aP, .ref aW, .int sn, .ref aB, .ref aM])), (aX, .inl (cyI, 100, .inl (nA x)))] [0, 1] rfl rfl (by decide) ?_
            refine j_top (bI (isD (x p))) (rfl) ?_
            refine j_b_eq (pc' := 66) C 166 dX8_advances_63 (by decide) rfl (fun c63 => ?_) (fun c63 => ?_)
            · refine j_aload_n (pc' := 167) C dX8_advances_166 rfl 1 rfl ?_
              refine j_dup (pc' := 168) C dX8_advances_167 rfl rfl ?_
              refine j_get (v := .int (nI p)) (pc' := 171) C KX8 0 3 rfl (by decide) fl_X8_70 rfl rfl dX8_advances_168 rfl ?_
              refine j_iconst (v := (nI 1)) (pc' := 172) C dX8_advances_171 rfl (by decide +kernel) ?_
              refine j_iadd (v := (nI (p + 1))) (pc' := 173) C dX8_advances_172 rfl (nI_add p 1) ?_
              refine j_put (pc' := 176) C [(a0, .inr (8, [.int th, .ref aX, .int (nI n), .int (nI (p + 1)), .int tk, .int (nI p), .int va, .int fa, .ref aT, .ref aD, .ref aS, .ref aU, .int um, .ref aK, .ref aI, .ref aL, .ref aE, .ref aF, .int sm, .ref aP, .ref aW, .int sn, .ref aB, .ref aM])), (aX, .inl (cyI, 100, .inl (nA x)))] KX8 0 3 rfl (by decide) fl_X8_70 rfl rfl rfl rfl (Nat.le_of_ble_eq_true rfl) dX8_advances_173 rfl rfl ?_
              refine j_aload_n (pc' := 177) C dX8_advances_176 rfl 1 rfl ?_
              refine j_iload_n (pc' := 178) C dX8_advances_177 rfl 0 rfl ?_
              refine j_put (pc' := 181) C [(a0, .inr (8, [.int th, .ref aX, .int (nI n), .int (nI (p + 1)), .int tk, .int (nI p), .int (nI (x p)), .int fa, .ref aT, .ref aD, .ref aS, .ref aU, .int um, .ref aK, .ref aI, .ref aL, .ref aE, .ref aF, .int sm, .ref aP, .ref aW, .int sn, .ref aB, .ref aM])), (aX, .inl (cyI, 100, .inl (nA x)))] KX8 0 6 rfl (by decide) fl_X8_83 rfl rfl rfl rfl (Nat.le_of_ble_eq_true rfl) dX8_advances_178 rfl rfl ?_
              refine j_aload_n (pc' := 182) C dX8_advances_181 rfl 1 rfl ?_
              refine j_iload_n (pc' := 183) C dX8_advances_182 rfl 0 rfl ?_
              refine j_bipush (v := (nI 59)) (pc' := 185) C dX8_advances_183 rfl (by decide +kernel) ?_
              refine j_nc_ne (pc' := 188) C 192 dX8_advances_185 (by decide) rfl (by omega) (by omega) (fun c185 => ?_) (fun c185 => ?_)
              · refine j_iload_n (pc' := 193) C dX8_advances_192 rfl 0 rfl ?_
                refine j_cSi (As := [.int (nI (x p))]) (wr := [(a0, .inr (8, [.int th, .ref aX, .int (nI n), .int (nI (p + 1)), .int tk, .int (nI p), .int (nI (x p)), .int fa, .ref aT, .ref aD, .ref aS, .ref aU, .int um, .ref aK, .ref aI, .ref aL, .ref aE, .ref aF, .int sm, .ref aP, .ref aW, .int sn, .ref aB, .ref aM])), (aX, .inl (cyI, 100, .inl (nA x)))]) (pc' := 196) C (c_X8_isLetter (v := x p) (hv := by first | assumption | omega)) Y_X8_isLetter (ml_X8_86) [] [0, 1] rfl rfl rfl rfl (by decide) dX8_advances_193 rfl rfl rfl (Nat.le_of_ble_eq_true rfl) ⟨Nat.le_of_ble_eq_true rfl, Nat.le_of_ble_eq_true rfl⟩ ⟨Nat.le_of_ble_eq_true rfl, Nat.le_of_ble_eq_true rfl⟩ ⟨rfl, rfl⟩ (fun r6 w1 hQ => ?_)
                obtain ⟨rfl, rfl⟩ := hQ
                refine j_perm [(a0, .inr (8, [.int th, .ref aX, .int (nI n), .int (nI (p + 1)), .int tk, .int (nI p), .int (nI (x p)), .int fa, .ref aT, .ref aD, .ref aS, .ref aU, .int um, .ref aK, .ref aI, .ref aL, .ref aE, .ref aF, .int sm, .ref aP, .ref aW, .int sn, .ref aB, .ref aM])), (aX, .inl (cyI, 100, .inl (nA x)))] [0, 1] rfl rfl (by decide) ?_
                refine j_b_eq (pc' := 199) C 203 dX8_advances_196 (by decide) rfl (fun c196 => ?_) (fun c196 => ?_)
                · refine j_iconst (v := (nI 4)) (pc' := 204) C dX8_advances_203 rfl (by decide +kernel) ?_
                  refine j_put (pc' := 207) C [(a0, .inr (8, [.int th, .ref aX, .int (nI n), .int (nI (p + 1)), .int (nI 4), .int (nI p), .int (nI (x p)), .int fa, .ref aT, .ref aD, .ref aS, .ref aU, .int um, .ref aK, .ref aI, .ref aL, .ref aE, .ref aF, .int sm, .ref aP, .ref aW, .int sn, .ref aB, .ref aM])), (aX, .inl (cyI, 100, .inl (nA x)))] KX8 0 4 rfl (by decide) fl_X8_80 rfl rfl rfl rfl (Nat.le_of_ble_eq_true rfl) dX8_advances_204 rfl rfl ?_
                  have hs : skp x n b0 = p := by rw [← hp2]; exact skp_e (Or.inr c10)
                  have hv : tkv x n b0 = x p := by unfold tkv; rw [hs, if_pos (by omega), if_neg (by rw [c63]; decide)]
                  have ho : tko x n b0 = 4 := by unfold tko tkc; rw [hv, c63, if_neg (by omega), if_neg (by omega), if_neg (by decide)]; rw [if_neg c185, c196, if_neg (by decide)]
                  have he : tke x n b0 = p + 1 := by unfold tke; rw [hs, if_pos (by omega), if_neg (by rw [c63]; decide)]
                  exact j_vret C hr hk hA dX8_advances_207 (⟨_, by rw [ho, he, hs], by unfold VV; rw [hv]; exact ⟨fun q9 => absurd q9 (by rw [c63]; decide), fun _ => rfl⟩⟩)
                · refine j_iconst (v := (nI 1)) (pc' := 200) C dX8_advances_199 rfl (by decide +kernel) ?_
                  refine j_goto C 204 dX8_advances_200 (by decide) ?_
                  refine j_put (pc' := 207) C [(a0, .inr (8, [.int th, .ref aX, .int (nI n), .int (nI (p + 1)), .int (nI 1), .int (nI p), .int (nI (x p)), .int fa, .ref aT, .ref aD, .ref aS, .ref aU, .int um, .ref aK, .ref aI, .ref aL, .ref aE, .ref aF, .int sm, .ref aP, .ref aW, .int sn, .ref aB, .ref aM])), (aX, .inl (cyI, 100, .inl (nA x)))] KX8 0 4 rfl (by decide) fl_X8_80 rfl rfl rfl rfl (Nat.le_of_ble_eq_true rfl) dX8_advances_204 rfl rfl ?_
                  have hs : skp x n b0 = p := by rw [← hp2]; exact skp_e (Or.inr c10)
                  have hv : tkv x n b0 = x p := by unfold tkv; rw [hs, if_pos (by omega), if_neg (by rw [c63]; decide)]
                  have ho : tko x n b0 = 1 := by unfold tko tkc; rw [hv, c63, if_neg (by omega), if_neg (by omega), if_neg (by decide)]; rw [if_neg c185, c196, if_pos rfl]
                  have he : tke x n b0 = p + 1 := by unfold tke; rw [hs, if_pos (by omega), if_neg (by rw [c63]; decide)]
                  exact j_vret C hr hk hA dX8_advances_207 (⟨_, by rw [ho, he, hs], by unfold VV; rw [hv]; exact ⟨fun q9 => absurd q9 (by rw [c63]; decide), fun _ => rfl⟩⟩)
              · refine j_iconst (v := (nI 3)) (pc' := 189) C dX8_advances_188 rfl (by decide +kernel) ?_
                refine j_goto C 204 dX8_advances_189 (by decide) ?_
                refine j_put (pc' := 207) C [(a0, .inr (8, [.int th, .ref aX, .int (nI n), .int (nI (p + 1)), .int (nI 3), .int (nI p), .int (nI (x p)), .int fa, .ref aT, .ref aD, .ref aS, .ref aU, .int um, .ref aK, .ref aI, .ref aL, .ref aE, .ref aF, .int sm, .ref aP, .ref aW, .int sn, .ref aB, .ref aM])), (aX, .inl (cyI, 100, .inl (nA x)))] KX8 0 4 rfl (by decide) fl_X8_80 rfl rfl rfl rfl (Nat.le_of_ble_eq_true rfl) dX8_advances_204 rfl rfl ?_
                have hs : skp x n b0 = p := by rw [← hp2]; exact skp_e (Or.inr c10)
                have hv : tkv x n b0 = x p := by unfold tkv; rw [hs, if_pos (by omega), if_neg (by rw [c63]; decide)]
                have ho : tko x n b0 = 3 := by unfold tko tkc; rw [hv, c63, if_neg (by omega), if_neg (by omega), if_neg (by decide)]; rw [if_pos c185]
                have he : tke x n b0 = p + 1 := by unfold tke; rw [hs, if_pos (by omega), if_neg (by rw [c63]; decide)]
                exact j_vret C hr hk hA dX8_advances_207 (⟨_, by rw [ho, he, hs], by unfold VV; rw [hv]; exact ⟨fun q9 => absurd q9 (by rw [c63]; decide), fun _ => rfl⟩⟩)
            · have hLp : p < n := by omega
              refine j_aload_n (pc' := 67) C dX8_advances_66 rfl 1 rfl ?_
              refine j_iconst (v := (nI 0)) (pc' := 68) C dX8_advances_67 rfl (by decide +kernel) ?_
              refine j_put (pc' := 71) C [(a0, .inr (8, [.int th, .ref aX, .int (nI n), .int (nI p), .int tk, .int (nI p), .int (nI 0), .int fa, .ref aT, .ref aD, .ref aS, .ref aU, .int um, .ref aK, .ref aI, .ref aL, .ref aE, .ref aF, .int sm, .ref aP, .ref aW, .int sn, .ref aB, .ref aM])), (aX, .inl (cyI, 100, .inl (nA x)))] KX8 0 6 rfl (by decide) fl_X8_83 rfl rfl rfl rfl (Nat.le_of_ble_eq_true rfl) dX8_advances_68 rfl rfl ?_
              refine j_lsub [(0, .ref a0), (1, .int (nI (x p)))] [1, 0] rfl ?_
              refine j_loop2 (fun (e : Nat) (va : Int32) => [(a0, .inr (8, [.int th, .ref aX, .int (nI n), .int (nI e), .int tk, .int (nI p), .int va, .int fa, .ref aT, .ref aD, .ref aS, .ref aU, .int um, .ref aK, .ref aI, .ref aL, .ref aE, .ref aF, .int sm, .ref aP, .ref aW, .int sn, .ref aB, .ref aM])), (aX, .inl (cyI, 100, .inl (nA x)))]) (fun (e : Nat) (va : Int32) => [(0, .ref a0), (1, .int (nI (x p)))]) (fun (e : Nat) (va : Int32) => []) (fun (e : Nat) (va : Int32) => p ≤ e ∧ e ≤ n ∧ dgp x n e = dgp x n p ∧ ((e = p ∧ va = nI 0) ∨ (e = p + 1 ∧ va = nI (x p - 48)) ∨ p + 2 ≤ e)) (fun (e : Nat) (va : Int32) => n - e) ?_ p (nI 0) ?_
              · intro e va hI71 ih71
                obtain ⟨he0, he1, he2, hva⟩ := hI71
                refine j_aload_n (pc' := 72) C dX8_advances_71 rfl 0 rfl ?_
                refine j_aload_n (pc' := 73) C dX8_advances_72 rfl 0 rfl ?_
                refine j_get (v := .int (nI e)) (pc' := 76) C KX8 0 3 rfl (by decide) fl_X8_70 rfl rfl dX8_advances_73 rfl ?_
                refine j_cVi (As := [.int (nI e)]) (wr := []) (pc' := 79) C (c_X8_letterAt (a0 := a0) (th := th) (aX := aX) (sp := (nI e)) (tk := tk) (pl := (nI p)) (va := va) (fa := fa) (aT := aT) (aD := aD) (aS := aS) (aU := aU) (um := um) (aK := aK) (aI := aI) (aL := aL) (aE := aE) (aF := aF) (sm := sm) (aP := aP) (aW := aW) (sn := sn) (aB := aB) (aM := aM) (x := x) (n := n) (k := e) (hn := by first | assumption | omega) (hx := by first | assumption | omega) (hk2 := by first | assumption | omega)) Y_X8_letterAt (ml_X8_73) [0, 1] [] rfl rfl rfl rfl (by decide) rfl rfl rfl dX8_advances_76 rfl rfl rfl (Nat.le_of_ble_eq_true rfl) ⟨Nat.le_of_ble_eq_true rfl, Nat.le_of_ble_eq_true rfl⟩ ⟨Nat.le_of_ble_eq_true rfl, Nat.le_of_ble_eq_true rfl⟩ ⟨rfl, rfl⟩ (fun r7 w1 hQ => ?_)
                obtain ⟨rfl, hF76⟩ := hQ
                rcases hF76 with ⟨hL8, rfl⟩ | ⟨hL8, rfl⟩
                · have hbL8 := hx _ hL8
                  refine j_bipush (v := (nI 48)) (pc' := 81) C dX8_advances_79 rfl (by decide +kernel) ?_
                  refine j_bipush (v := (nI 57)) (pc' := 83) C dX8_advances_81 rfl (by decide +kernel) ?_
                  refine j_cSi (As := [.int (nI (x e)), .int (nI 48), .int (nI 57)]) (wr := [(a0, .inr (8, [.int th, .ref aX, .int (nI n), .int (nI e), .int tk, .int (nI p), .int va, .int fa, .ref aT, .ref aD, .ref aS, .ref aU, .int um, .ref aK, .ref aI, .ref aL, .ref aE, .ref aF, .int sm, .ref aP, .ref aW, .int sn, .ref aB, .ref aM])), (aX, .inl (cyI, 100, .inl (nA x)))]) (pc' := 86) C (c_X8_inN (x := x e) (a := 48) (b := 57) (hxx := by omega) (haa := by omega) (hbb := by omega)) Y_X8_in (ml_X8_63) [] [0, 1] rfl rfl rfl rfl (by decide) dX8_advances_83 rfl rfl rfl (Nat.le_of_ble_eq_true rfl) ⟨Nat.le_of_ble_eq_true rfl, Nat.le_of_ble_eq_true rfl⟩ ⟨Nat.le_of_ble_eq_true rfl, Nat.le_of_ble_eq_true rfl⟩ ⟨rfl, rfl⟩ (fun r9 w1 hQ => ?_)
                  obtain ⟨rfl, rfl⟩ := hQ
                  refine j_perm [(a0, .inr (8, [.int th, .ref aX, .int (nI n), .int (nI e), .int tk, .int (nI p), .int va, .int fa, .ref aT, .ref aD, .ref aS, .ref aU, .int um, .ref aK, .ref aI, .ref aL, .ref aE, .ref aF, .int sm, .ref aP, .ref aW, .int sn, .ref aB, .ref aM])), (aX, .inl (cyI, 100, .inl (nA x)))] [0, 1] rfl rfl (by decide) ?_
                  refine j_top (bI (isD (x e))) (rfl) ?_
                  refine j_b_eq (pc' := 89) C 141 dX8_advances_86 (by decide) rfl (fun c86 => ?_) (fun c86 => ?_)
                  · refine j_aload_n (pc' := 142) C dX8_advances_141 rfl 0 rfl ?_
                    refine j_aload_n (pc' := 143) C dX8_advances_142 rfl 0 rfl ?_
                    refine j_get (v := .int (nI e)) (pc' := 146) C KX8 0 3 rfl (by decide) fl_X8_70 rfl rfl dX8_advances_143 rfl ?_
                    refine j_aload_n (pc' := 147) C dX8_advances_146 rfl 0 rfl ?_
                    refine j_get (v := .int (nI p)) (pc' := 150) C KX8 0 5 rfl (by decide) fl_X8_77 rfl rfl dX8_advances_147 rfl ?_
                    refine j_isub (v := (nI (e - p))) (pc' := 151) C dX8_advances_150 rfl (pk_sub (by omega)) ?_
                    refine j_iconst (v := (nI 1)) (pc' := 152) C dX8_advances_151 rfl (by decide +kernel) ?_
                    refine j_nc_le (pc' := 155) C 159 dX8_advances_152 (by decide) rfl (by omega) (by omega) (fun c152 => ?_) (fun c152 => ?_)
                    · refine j_iconst (v := (nI 2)) (pc' := 160) C dX8_advances_159 rfl (by decide +kernel) ?_
                      refine j_put (pc' := 163) C [(a0, .inr (8, [.int th, .ref aX, .int (nI n), .int (nI e), .int (nI 2), .int (nI p), .int va, .int fa, .ref aT, .ref aD, .ref aS, .ref aU, .int um, .ref aK, .ref aI, .ref aL, .ref aE, .ref aF, .int sm, .ref aP, .ref aW, .int sn, .ref aB, .ref aM])), (aX, .inl (cyI, 100, .inl (nA x)))] KX8 0 4 rfl (by decide) fl_X8_80 rfl rfl rfl rfl (Nat.le_of_ble_eq_true rfl) dX8_advances_160 rfl rfl ?_
                      refine j_goto C 207 dX8_advances_163 (by decide) ?_
                      have hs : skp x n b0 = p := by rw [← hp2]; exact skp_e (Or.inr c10)
                      have hde : dgp x n p = e := by rw [← he2]; exact dgp_e (by first | exact Or.inl (by omega) | exact Or.inr c86)
                      have hpe : p + 1 ≤ e := by have h91 := dgp_s hLp c63; have h92 := dgp_ge x (n := n) (p := p + 1) (by omega); omega
                      have he : tke x n b0 = e := by unfold tke; rw [hs, if_pos (by omega), if_pos c63, hde]
                      have hv : tkv x n b0 = x p := by unfold tkv; rw [hs, if_pos (by omega), if_pos c63, if_pos (by omega)]
                      have h63 := of_decide_eq_true c63
                      have ho : tko x n b0 = 2 := by unfold tko tkc; rw [hv, c63, if_neg (by omega), if_neg (by omega), if_pos rfl]
                      exact j_vret C hr hk hA dX8_advances_207 (⟨_, by rw [ho, he, hs], by unfold VV; rw [hv]; refine ⟨fun _ => ?_, fun q9 => absurd (of_decide_eq_true q9) (by omega)⟩; rcases hva with ⟨q9, _⟩ | ⟨_, q9⟩ | q9; omega; exact q9; omega⟩)
                    · refine j_iconst (v := (nI 4)) (pc' := 156) C dX8_advances_155 rfl (by decide +kernel) ?_
                      refine j_goto C 160 dX8_advances_156 (by decide) ?_
                      refine j_put (pc' := 163) C [(a0, .inr (8, [.int th, .ref aX, .int (nI n), .int (nI e), .int (nI 4), .int (nI p), .int va, .int fa, .ref aT, .ref aD, .ref aS, .ref aU, .int um, .ref aK, .ref aI, .ref aL, .ref aE, .ref aF, .int sm, .ref aP, .ref aW, .int sn, .ref aB, .ref aM])), (aX, .inl (cyI, 100, .inl (nA x)))] KX8 0 4 rfl (by decide) fl_X8_80 rfl rfl rfl rfl (Nat.le_of_ble_eq_true rfl) dX8_advances_160 rfl rfl ?_
                      refine j_goto C 207 dX8_advances_163 (by decide) ?_
                      have hs : skp x n b0 = p := by rw [← hp2]; exact skp_e (Or.inr c10)
                      have hde : dgp x n p = e := by rw [← he2]; exact dgp_e (by first | exact Or.inl (by omega) | exact Or.inr c86)
                      have hpe : p + 1 ≤ e := by have h91 := dgp_s hLp c63; have h92 := dgp_ge x (n := n) (p := p + 1) (by omega); omega
                      have he : tke x n b0 = e := by unfold tke; rw [hs, if_pos (by omega), if_pos c63, hde]
                      have hv : tkv x n b0 = 301 := by unfold tkv; rw [hs, if_pos (by omega), if_pos c63, if_neg (by omega)]
                      have ho : tko x n b0 = 4 := by unfold tko tkc; rw [hv]; rfl
                      exact j_vret C hr hk hA dX8_advances_207 (⟨_, by rw [ho, he, hs], by unfold VV; rw [hv]; exact ⟨fun q9 => absurd q9 (by decide), fun q9 => absurd q9 (by decide)⟩⟩)
                  · refine j_aload_n (pc' := 90) C dX8_advances_89 rfl 0 rfl ?_
                    refine j_aload_n (pc' := 91) C dX8_advances_90 rfl 0 rfl ?_
                    refine j_get (v := .int va) (pc' := 94) C KX8 0 6 rfl (by decide) fl_X8_83 rfl rfl dX8_advances_91 rfl ?_
                    refine j_bipush (v := (nI 9)) (pc' := 96) C dX8_advances_94 rfl (by decide +kernel) ?_
                    refine j_ic_le (pc' := 99) C 106 dX8_advances_96 (by decide) rfl (fun c96 => ?_) (fun c96 => ?_)
                    · refine j_bipush (v := (nI 10)) (pc' := 108) C dX8_advances_106 rfl (by decide +kernel) ?_
                      refine j_aload_n (pc' := 109) C dX8_advances_108 rfl 0 rfl ?_
                      refine j_get (v := .int va) (pc' := 112) C KX8 0 6 rfl (by decide) fl_X8_83 rfl rfl dX8_advances_109 rfl ?_
                      refine j_imul (v := ((nI 10) * va)) (pc' := 113) C dX8_advances_112 rfl (rfl) ?_
                      refine j_aload_n (pc' := 114) C dX8_advances_113 rfl 0 rfl ?_
                      refine j_aload_n (pc' := 115) C dX8_advances_114 rfl 0 rfl ?_
                      refine j_get (v := .int (nI e)) (pc' := 118) C KX8 0 3 rfl (by decide) fl_X8_70 rfl rfl dX8_advances_115 rfl ?_
                      refine j_cVi (As := [.int (nI e)]) (wr := []) (pc' := 121) C (c_X8_letterAt (a0 := a0) (th := th) (aX := aX) (sp := (nI e)) (tk := tk) (pl := (nI p)) (va := va) (fa := fa) (aT := aT) (aD := aD) (aS := aS) (aU := aU) (um := um) (aK := aK) (aI := aI) (aL := aL) (aE := aE) (aF := aF) (sm := sm) (aP := aP) (aW := aW) (sn := sn) (aB := aB) (aM := aM) (x := x) (n := n) (k := e) (hn := by first | assumption | omega) (hx := by first | assumption | omega) (hk2 := by first | assumption | omega)) Y_X8_letterAt (ml_X8_73) [0, 1] [] rfl rfl rfl rfl (by decide) rfl rfl rfl dX8_advances_118 rfl rfl rfl (Nat.le_of_ble_eq_true rfl) ⟨Nat.le_of_ble_eq_true rfl, Nat.le_of_ble_eq_true rfl⟩ ⟨Nat.le_of_ble_eq_true rfl, Nat.le_of_ble_eq_true rfl⟩ ⟨rfl, rfl⟩ (fun r10 w1 hQ => ?_)
                      obtain ⟨rfl, hF118⟩ := hQ
                      rcases hF118 with ⟨hL11, rfl⟩ | ⟨hL11, rfl⟩
                      · have hbL11 := hx _ hL11
                        refine j_iadd (v := (((nI 10) * va) + (nI (x e)))) (pc' := 122) C dX8_advances_121 rfl (rfl) ?_
                        refine j_bipush (v := (nI 48)) (pc' := 124) C dX8_advances_122 rfl (by decide +kernel) ?_
                        refine j_isub (v := ((((nI 10) * va) + (nI (x e))) - (nI 48))) (pc' := 125) C dX8_advances_124 rfl (rfl) ?_
                        refine j_nm (fun v12 ev12 => ?_)
                        refine j_put (pc' := 128) C [(a0, .inr (8, [.int th, .ref aX, .int (nI n), .int (nI e), .int tk, .int (nI p), .int v12, .int fa, .ref aT, .ref aD, .ref aS, .ref aU, .int um, .ref aK, .ref aI, .ref aL, .ref aE, .ref aF, .int sm, .ref aP, .ref aW, .int sn, .ref aB, .ref aM])), (aX, .inl (cyI, 100, .inl (nA x)))] KX8 0 6 rfl (by decide) fl_X8_83 rfl rfl rfl rfl (Nat.le_of_ble_eq_true rfl) dX8_advances_125 rfl rfl ?_
                        refine j_aload_n (pc' := 129) C dX8_advances_128 rfl 0 rfl ?_
                        refine j_dup (pc' := 130) C dX8_advances_129 rfl rfl ?_
                        refine j_get (v := .int (nI e)) (pc' := 133) C KX8 0 3 rfl (by decide) fl_X8_70 rfl rfl dX8_advances_130 rfl ?_
                        refine j_iconst (v := (nI 1)) (pc' := 134) C dX8_advances_133 rfl (by decide +kernel) ?_
                        refine j_iadd (v := (nI (e + 1))) (pc' := 135) C dX8_advances_134 rfl (nI_add e 1) ?_
                        refine j_put (pc' := 138) C [(a0, .inr (8, [.int th, .ref aX, .int (nI n), .int (nI (e + 1)), .int tk, .int (nI p), .int v12, .int fa, .ref aT, .ref aD, .ref aS, .ref aU, .int um, .ref aK, .ref aI, .ref aL, .ref aE, .ref aF, .int sm, .ref aP, .ref aW, .int sn, .ref aB, .ref aM])), (aX, .inl (cyI, 100, .inl (nA x)))] KX8 0 3 rfl (by decide) fl_X8_70 rfl rfl rfl rfl (Nat.le_of_ble_eq_true rfl) dX8_advances_135 rfl rfl ?_
                        refine j_goto C 71 dX8_advances_138 (by decide) ?_
                        refine j_lsub [(0, .ref a0), (1, .int (nI (x p)))] [0, 1] rfl ?_
                        exact ih71 (e + 1) v12 (⟨by omega, by omega, by rw [← he2]; exact (dgp_s (by omega) c86).symm, by rcases hva with ⟨q9, q8⟩ | ⟨q9, _⟩ | q9; (right; left; refine ⟨by omega, ?_⟩; have h63 := of_decide_eq_true c63; rw [ev12, q8, q9]; exact val_1 h63.1); (right; right; omega); (right; right; omega)⟩) (by omega)
                      · exact absurd hL11 (by omega)
                    · refine j_aload_n (pc' := 100) C dX8_advances_99 rfl 0 rfl ?_
                      refine j_get (v := .int va) (pc' := 103) C KX8 0 6 rfl (by decide) fl_X8_83 rfl rfl dX8_advances_100 rfl ?_
                      refine j_goto C 125 dX8_advances_103 (by decide) ?_
                      refine j_put (pc' := 128) C [(a0, .inr (8, [.int th, .ref aX, .int (nI n), .int (nI e), .int tk, .int (nI p), .int va, .int fa, .ref aT, .ref aD, .ref aS, .ref aU, .int um, .ref aK, .ref aI, .ref aL, .ref aE, .ref aF, .int sm, .ref aP, .ref aW, .int sn, .ref aB, .ref aM])), (aX, .inl (cyI, 100, .inl (nA x)))] KX8 0 6 rfl (by decide) fl_X8_83 rfl rfl rfl rfl (Nat.le_of_ble_eq_true rfl) dX8_advances_125 rfl rfl ?_
                      refine j_aload_n (pc' := 129) C dX8_advances_128 rfl 0 rfl ?_
                      refine j_dup (pc' := 130) C dX8_advances_129 rfl rfl ?_
                      refine j_get (v := .int (nI e)) (pc' := 133) C KX8 0 3 rfl (by decide) fl_X8_70 rfl rfl dX8_advances_130 rfl ?_
                      refine j_iconst (v := (nI 1)) (pc' := 134) C dX8_advances_133 rfl (by decide +kernel) ?_
                      refine j_iadd (v := (nI (e + 1))) (pc' := 135) C dX8_advances_134 rfl (nI_add e 1) ?_
                      refine j_put (pc' := 138) C [(a0, .inr (8, [.int th, .ref aX, .int (nI n), .int (nI (e + 1)), .int tk, .int (nI p), .int va, .int fa, .ref aT, .ref aD, .ref aS, .ref aU, .int um, .ref aK, .ref aI, .ref aL, .ref aE, .ref aF, .int sm, .ref aP, .ref aW, .int sn, .ref aB, .ref aM])), (aX, .inl (cyI, 100, .inl (nA x)))] KX8 0 3 rfl (by decide) fl_X8_70 rfl rfl rfl rfl (Nat.le_of_ble_eq_true rfl) dX8_advances_135 rfl rfl ?_
                      refine j_goto C 71 dX8_advances_138 (by decide) ?_
                      refine j_lsub [(0, .ref a0), (1, .int (nI (x p)))] [0, 1] rfl ?_
                      exact ih71 (e + 1) va (⟨by omega, by omega, by rw [← he2]; exact (dgp_s (by omega) c86).symm, by rcases hva with ⟨q9, q8⟩ | ⟨q9, _⟩ | q9; rw [q8] at c96; exact absurd c96 (by decide +kernel); (right; right; omega); (right; right; omega)⟩) (by omega)
                · refine j_bipush (v := (nI 48)) (pc' := 81) C dX8_advances_79 rfl (by decide +kernel) ?_
                  refine j_bipush (v := (nI 57)) (pc' := 83) C dX8_advances_81 rfl (by decide +kernel) ?_
                  refine j_cSi (As := [.int (-1), .int (nI 48), .int (nI 57)]) (wr := [(a0, .inr (8, [.int th, .ref aX, .int (nI n), .int (nI e), .int tk, .int (nI p), .int va, .int fa, .ref aT, .ref aD, .ref aS, .ref aU, .int um, .ref aK, .ref aI, .ref aL, .ref aE, .ref aF, .int sm, .ref aP, .ref aW, .int sn, .ref aB, .ref aM])), (aX, .inl (cyI, 100, .inl (nA x)))]) (pc' := 86) C (c_X8_in (x := (-1)) (a := (nI 48)) (b := (nI 57)) ) Y_X8_in (ml_X8_63) [] [0, 1] rfl rfl rfl rfl (by decide) dX8_advances_83 rfl rfl rfl (Nat.le_of_ble_eq_true rfl) ⟨Nat.le_of_ble_eq_true rfl, Nat.le_of_ble_eq_true rfl⟩ ⟨Nat.le_of_ble_eq_true rfl, Nat.le_of_ble_eq_true rfl⟩ ⟨rfl, rfl⟩ (fun r13 w1 hQ => ?_)
                  obtain ⟨rfl, rfl⟩ := hQ
                  refine j_perm [(a0, .inr (8, [.int th, .ref aX, .int (nI n), .int (nI e), .int tk, .int (nI p), .int va, .int fa, .ref aT, .ref aD, .ref aS, .ref aU, .int um, .ref aK, .ref aI, .ref aL, .ref aE, .ref aF, .int sm, .ref aP, .ref aW, .int sn, .ref aB, .ref aM])), (aX, .inl (cyI, 100, .inl (nA x)))] [0, 1] rfl rfl (by decide) ?_
                  refine j_top (bI false) (by decide +kernel) ?_
                  refine j_b_eq (pc' := 89) C 141 dX8_advances_86 (by decide) rfl (fun c86 => ?_) (fun c86 => ?_)
                  · refine j_aload_n (pc' := 142) C dX8_advances_141 rfl 0 rfl ?_
                    refine j_aload_n (pc' := 143) C dX8_advances_142 rfl 0 rfl ?_
                    refine j_get (v := .int (nI e)) (pc' := 146) C KX8 0 3 rfl (by decide) fl_X8_70 rfl rfl dX8_advances_143 rfl ?_
                    refine j_aload_n (pc' := 147) C dX8_advances_146 rfl 0 rfl ?_
                    refine j_get (v := .int (nI p)) (pc' := 150) C KX8 0 5 rfl (by decide) fl_X8_77 rfl rfl dX8_advances_147 rfl ?_
                    refine j_isub (v := (nI (e - p))) (pc' := 151) C dX8_advances_150 rfl (pk_sub (by omega)) ?_
                    refine j_iconst (v := (nI 1)) (pc' := 152) C dX8_advances_151 rfl (by decide +kernel) ?_
                    refine j_nc_le (pc' := 155) C 159 dX8_advances_152 (by decide) rfl (by omega) (by omega) (fun c152 => ?_) (fun c152 => ?_)
                    · refine j_iconst (v := (nI 2)) (pc' := 160) C dX8_advances_159 rfl (by decide +kernel) ?_
                      refine j_put (pc' := 163) C [(a0, .inr (8, [.int th, .ref aX, .int (nI n), .int (nI e), .int (nI 2), .int (nI p), .int va, .int fa, .ref aT, .ref aD, .ref aS, .ref aU, .int um, .ref aK, .ref aI, .ref aL, .ref aE, .ref aF, .int sm, .ref aP, .ref aW, .int sn, .ref aB, .ref aM])), (aX, .inl (cyI, 100, .inl (nA x)))] KX8 0 4 rfl (by decide) fl_X8_80 rfl rfl rfl rfl (Nat.le_of_ble_eq_true rfl) dX8_advances_160 rfl rfl ?_
                      refine j_goto C 207 dX8_advances_163 (by decide) ?_
                      have hs : skp x n b0 = p := by rw [← hp2]; exact skp_e (Or.inr c10)
                      have hde : dgp x n p = e := by rw [← he2]; exact dgp_e (by first | exact Or.inl (by omega) | exact Or.inr c86)
                      have hpe : p + 1 ≤ e := by have h91 := dgp_s hLp c63; have h92 := dgp_ge x (n := n) (p := p + 1) (by omega); omega
                      have he : tke x n b0 = e := by unfold tke; rw [hs, if_pos (by omega), if_pos c63, hde]
                      have hv : tkv x n b0 = x p := by unfold tkv; rw [hs, if_pos (by omega), if_pos c63, if_pos (by omega)]
                      have h63 := of_decide_eq_true c63
                      have ho : tko x n b0 = 2 := by unfold tko tkc; rw [hv, c63, if_neg (by omega), if_neg (by omega), if_pos rfl]
                      exact j_vret C hr hk hA dX8_advances_207 (⟨_, by rw [ho, he, hs], by unfold VV; rw [hv]; refine ⟨fun _ => ?_, fun q9 => absurd (of_decide_eq_true q9) (by omega)⟩; rcases hva with ⟨q9, _⟩ | ⟨_, q9⟩ | q9; omega; exact q9; omega⟩)
                    · refine j_iconst (v := (nI 4)) (pc' := 156) C dX8_advances_155 rfl (by decide +kernel) ?_
                      refine j_goto C 160 dX8_advances_156 (by decide) ?_
                      refine j_put (pc' := 163) C [(a0, .inr (8, [.int th, .ref aX, .int (nI n), .int (nI e), .int (nI 4), .int (nI p), .int va, .int fa, .ref aT, .ref aD, .ref aS, .ref aU, .int um, .ref aK, .ref aI, .ref aL, .ref aE, .ref aF, .int sm, .ref aP, .ref aW, .int sn, .ref aB, .ref aM])), (aX, .inl (cyI, 100, .inl (nA x)))] KX8 0 4 rfl (by decide) fl_X8_80 rfl rfl rfl rfl (Nat.le_of_ble_eq_true rfl) dX8_advances_160 rfl rfl ?_
                      refine j_goto C 207 dX8_advances_163 (by decide) ?_
                      have hs : skp x n b0 = p := by rw [← hp2]; exact skp_e (Or.inr c10)
                      have hde : dgp x n p = e := by rw [← he2]; exact dgp_e (by first | exact Or.inl (by omega) | exact Or.inr c86)
                      have hpe : p + 1 ≤ e := by have h91 := dgp_s hLp c63; have h92 := dgp_ge x (n := n) (p := p + 1) (by omega); omega
                      have he : tke x n b0 = e := by unfold tke; rw [hs, if_pos (by omega), if_pos c63, hde]
                      have hv : tkv x n b0 = 301 := by unfold tkv; rw [hs, if_pos (by omega), if_pos c63, if_neg (by omega)]
                      have ho : tko x n b0 = 4 := by unfold tko tkc; rw [hv]; rfl
                      exact j_vret C hr hk hA dX8_advances_207 (⟨_, by rw [ho, he, hs], by unfold VV; rw [hv]; exact ⟨fun q9 => absurd q9 (by decide), fun q9 => absurd q9 (by decide)⟩⟩)
                  · exact absurd c86 (by decide)
              · exact ⟨Nat.le_refl _, by omega, rfl, Or.inl ⟨rfl, rfl⟩⟩
          · exact absurd c44 (fun q9 => q9 (nI_pos' (by omega)))
        · exact absurd hL4 (by omega)
      · refine j_aload_n (pc' := 14) C dX8_advances_13 rfl 0 rfl ?_
        refine j_dup (pc' := 15) C dX8_advances_14 rfl rfl ?_
        refine j_get (v := .int (nI p)) (pc' := 18) C KX8 0 3 rfl (by decide) fl_X8_70 rfl rfl dX8_advances_15 rfl ?_
        refine j_iconst (v := (nI 1)) (pc' := 19) C dX8_advances_18 rfl (by decide +kernel) ?_
        refine j_iadd (v := (nI (p + 1))) (pc' := 20) C dX8_advances_19 rfl (nI_add p 1) ?_
        refine j_put (pc' := 23) C [(a0, .inr (8, [.int th, .ref aX, .int (nI n), .int (nI (p + 1)), .int tk, .int pl, .int va, .int fa, .ref aT, .ref aD, .ref aS, .ref aU, .int um, .ref aK, .ref aI, .ref aL, .ref aE, .ref aF, .int sm, .ref aP, .ref aW, .int sn, .ref aB, .ref aM])), (aX, .inl (cyI, 100, .inl (nA x)))] KX8 0 3 rfl (by decide) fl_X8_70 rfl rfl rfl rfl (Nat.le_of_ble_eq_true rfl) dX8_advances_20 rfl rfl ?_
        refine j_goto C 0 dX8_advances_23 (by decide) ?_
        refine j_lsub [(0, .ref a0)] [0] rfl ?_
        exact ih0 (p + 1) (⟨by omega, by rw [← hp2]; exact (skp_s (by omega) c10).symm⟩) (by omega)
    · refine j_bipush (v := (nI 32)) (pc' := 10) C dX8_advances_8 rfl (by decide +kernel) ?_
      refine j_ic_ne (pc' := 13) C 26 dX8_advances_10 (by decide) rfl (fun c10 => ?_) (fun c10 => ?_)
      · refine j_aload_n (pc' := 27) C dX8_advances_26 rfl 0 rfl ?_
        refine j_aload_n (pc' := 28) C dX8_advances_27 rfl 0 rfl ?_
        refine j_get (v := .int (nI p)) (pc' := 31) C KX8 0 3 rfl (by decide) fl_X8_70 rfl rfl dX8_advances_28 rfl ?_
        refine j_put (pc' := 34) C [(a0, .inr (8, [.int th, .ref aX, .int (nI n), .int (nI p), .int tk, .int (nI p), .int va, .int fa, .ref aT, .ref aD, .ref aS, .ref aU, .int um, .ref aK, .ref aI, .ref aL, .ref aE, .ref aF, .int sm, .ref aP, .ref aW, .int sn, .ref aB, .ref aM])), (aX, .inl (cyI, 100, .inl (nA x)))] KX8 0 5 rfl (by decide) fl_X8_77 rfl rfl rfl rfl (Nat.le_of_ble_eq_true rfl) dX8_advances_31 rfl rfl ?_
        refine j_aload_n (pc' := 35) C dX8_advances_34 rfl 0 rfl ?_
        refine j_aload_n (pc' := 36) C dX8_advances_35 rfl 0 rfl ?_
        refine j_get (v := .int (nI p)) (pc' := 39) C KX8 0 3 rfl (by decide) fl_X8_70 rfl rfl dX8_advances_36 rfl ?_
        refine j_cVi (As := [.int (nI p)]) (wr := []) (pc' := 42) C (c_X8_letterAt (a0 := a0) (th := th) (aX := aX) (sp := (nI p)) (tk := tk) (pl := (nI p)) (va := va) (fa := fa) (aT := aT) (aD := aD) (aS := aS) (aU := aU) (um := um) (aK := aK) (aI := aI) (aL := aL) (aE := aE) (aF := aF) (sm := sm) (aP := aP) (aW := aW) (sn := sn) (aB := aB) (aM := aM) (x := x) (n := n) (k := p) (hn := by first | assumption | omega) (hx := by first | assumption | omega) (hk2 := by first | assumption | omega)) Y_X8_letterAt (ml_X8_73) [0, 1] [] rfl rfl rfl rfl (by decide) rfl rfl rfl dX8_advances_39 rfl rfl rfl (Nat.le_of_ble_eq_true rfl) ⟨Nat.le_of_ble_eq_true rfl, Nat.le_of_ble_eq_true rfl⟩ ⟨Nat.le_of_ble_eq_true rfl, Nat.le_of_ble_eq_true rfl⟩ ⟨rfl, rfl⟩ (fun r14 w1 hQ => ?_)
        obtain ⟨rfl, hF39⟩ := hQ
        rcases hF39 with ⟨hL15, rfl⟩ | ⟨hL15, rfl⟩
        · exact absurd hL15 (by omega)
        · refine j_istore_n (pc' := 43) C [(1, .int (-1)), (0, .ref a0)] dX8_advances_42 rfl (by decide) rfl ?_
          refine j_iload_n (pc' := 44) C dX8_advances_43 rfl 0 rfl ?_
          refine j_if_ge (pc' := 47) C 55 dX8_advances_44 (by decide) rfl (fun c44 => ?_) (fun c44 => ?_)
          · exact absurd c44 (by decide +kernel)
          · refine j_aload_n (pc' := 48) C dX8_advances_47 rfl 1 rfl ?_
            refine j_iconst (v := (nI 0)) (pc' := 49) C dX8_advances_48 rfl (by decide +kernel) ?_
            refine j_put (pc' := 52) C [(a0, .inr (8, [.int th, .ref aX, .int (nI n), .int (nI p), .int (nI 0), .int (nI p), .int va, .int fa, .ref aT, .ref aD, .ref aS, .ref aU, .int um, .ref aK, .ref aI, .ref aL, .ref aE, .ref aF, .int sm, .ref aP, .ref aW, .int sn, .ref aB, .ref aM])), (aX, .inl (cyI, 100, .inl (nA x)))] KX8 0 4 rfl (by decide) fl_X8_80 rfl rfl rfl rfl (Nat.le_of_ble_eq_true rfl) dX8_advances_49 rfl rfl ?_
            refine j_goto C 207 dX8_advances_52 (by decide) ?_
            have hs : skp x n b0 = p := by rw [← hp2]; exact skp_e (Or.inl (by omega))
            exact j_vret C hr hk hA dX8_advances_207 (⟨_, by unfold tko tke tkv; rw [hs, if_neg (by omega), if_neg (by omega)]; rfl, by unfold VV tkv; rw [hs, if_neg (by omega)]; exact ⟨fun q9 => absurd q9 (by decide), fun q9 => absurd q9 (by decide)⟩⟩)
      · exact absurd c10 (by decide +kernel)
  · exact ⟨hp, rfl⟩

set_option maxHeartbeats 4000000 in
set_option maxRecDepth 100000 in
theorem c_X8_isWell_y {lch : Launch} {dG : va_G} {cyI cyZ cyO : ClassId} (a0 : Nat) (th : Int32) (aX : Nat) (ty : Int32) (sp : Int32) (tk : Int32) (pl : Int32) (va : Int32) (aT : Nat) (aD : Nat) (aS : Nat) (aU : Nat) (um : Int32) (aK : Nat) (aI : Nat) (aL : Nat) (aE : Nat) (aF : Nat) (sm : Int32) (aP : Nat) (aW : Nat) (sn : Int32) (aB : Nat) (aM : Nat)  : Ki lch yX8_isWell cX8_isWell 1 .boolean (rmk 1) dG (cyI, cyZ, cyO) [.ref a0] [(a0, .inr (8, [.int th, .ref aX, .int ty, .int sp, .int tk, .int pl, .int va, .int (-1), .ref aT, .ref aD, .ref aS, .ref aU, .int um, .ref aK, .ref aI, .ref aL, .ref aE, .ref aF, .int sm, .ref aP, .ref aW, .int sn, .ref aB, .ref aM]))] (fun r w1 => w1 = [(a0, .inr (8, [.int th, .ref aX, .int ty, .int sp, .int tk, .int pl, .int va, .int (-1), .ref aT, .ref aD, .ref aS, .ref aU, .int um, .ref aK, .ref aI, .ref aL, .ref aE, .ref aF, .int sm, .ref aP, .ref aW, .int sn, .ref aB, .ref aM]))] ∧ r = (bI true)) := by
  refine Ki.of (own := RX8) rfl (by decide) (Nat.le_of_ble_eq_true rfl) (fun p0 e0 s0 m0 ar0 be0 me0 cd0 A0 C hr hk hnm hA => ?_)
  refine j_lsub [(0, .ref a0)] [0] rfl ?_
  refine j_aload_n (pc' := 1) C dX8_isWell_0 rfl 0 rfl ?_
  refine j_get (v := .int (-1)) (pc' := 4) C KX8 0 7 rfl (by decide) fl_X8_90 rfl rfl dX8_isWell_1 rfl ?_
  refine j_if_ge (pc' := 7) C 11 dX8_isWell_4 (by decide) rfl (fun c4 => ?_) (fun c4 => ?_)
  · exact absurd c4 (by decide +kernel)
  · refine j_iconst (v := (nI 1)) (pc' := 8) C dX8_isWell_7 rfl (by decide +kernel) ?_
    refine j_goto C 12 dX8_isWell_8 (by decide) ?_
    refine j_top (bI true) (by decide +kernel) ?_
    exact j_iret C hr hk hA dX8_isWell_12 (nrw_bI _) (⟨rfl, rfl⟩)

set_option maxHeartbeats 4000000 in
set_option maxRecDepth 100000 in
theorem c_X8_isWell_n {lch : Launch} {dG : va_G} {cyI cyZ cyO : ClassId} (a0 : Nat) (th : Int32) (aX : Nat) (ty : Int32) (sp : Int32) (tk : Int32) (pl : Int32) (va : Int32) (aT : Nat) (aD : Nat) (aS : Nat) (aU : Nat) (um : Int32) (aK : Nat) (aI : Nat) (aL : Nat) (aE : Nat) (aF : Nat) (sm : Int32) (aP : Nat) (aW : Nat) (sn : Int32) (aB : Nat) (aM : Nat) (f : Nat) (hf : f < 2147483648) : Ki lch yX8_isWell cX8_isWell 1 .boolean (rmk 1) dG (cyI, cyZ, cyO) [.ref a0] [(a0, .inr (8, [.int th, .ref aX, .int ty, .int sp, .int tk, .int pl, .int va, .int (nI f), .ref aT, .ref aD, .ref aS, .ref aU, .int um, .ref aK, .ref aI, .ref aL, .ref aE, .ref aF, .int sm, .ref aP, .ref aW, .int sn, .ref aB, .ref aM]))] (fun r w1 => w1 = [(a0, .inr (8, [.int th, .ref aX, .int ty, .int sp, .int tk, .int pl, .int va, .int (nI f), .ref aT, .ref aD, .ref aS, .ref aU, .int um, .ref aK, .ref aI, .ref aL, .ref aE, .ref aF, .int sm, .ref aP, .ref aW, .int sn, .ref aB, .ref aM]))] ∧ r = (bI false)) := by
  refine Ki.of (own := RX8) rfl (by decide) (Nat.le_of_ble_eq_true rfl) (fun p0 e0 s0 m0 ar0 be0 me0 cd0 A0 C hr hk hnm hA => ?_)
  refine j_lsub [(0, .ref a0)] [0] rfl ?_
  refine j_aload_n (pc' := 1) C dX8_isWell_0 rfl 0 rfl ?_
  refine j_get (v := .int (nI f)) (pc' := 4) C KX8 0 7 rfl (by decide) fl_X8_90 rfl rfl dX8_isWell_1 rfl ?_
  refine j_if_ge (pc' := 7) C 11 dX8_isWell_4 (by decide) rfl (fun c4 => ?_) (fun c4 => ?_)
  · refine j_iconst (v := (nI 0)) (pc' := 12) C dX8_isWell_11 rfl (by decide +kernel) ?_
    refine j_top (bI false) (by decide +kernel) ?_
    exact j_iret C hr hk hA dX8_isWell_12 (nrw_bI _) (⟨rfl, rfl⟩)
  · exact absurd c4 (fun q9 => q9 (nI_pos' hf))

set_option maxHeartbeats 4000000 in
set_option maxRecDepth 100000 in
theorem c_X8_takes_y {lch : Launch} {dG : va_G} {cyI cyZ cyO : ClassId} (a0 : Nat) (th : Int32) (aX : Nat) (va : Int32) (aT : Nat) (aD : Nat) (aS : Nat) (aU : Nat) (um : Int32) (aK : Nat) (aI : Nat) (aL : Nat) (aE : Nat) (aF : Nat) (sm : Int32) (aP : Nat) (aW : Nat) (sn : Int32) (aB : Nat) (aM : Nat) (x : Nat → Nat) (n : Nat) (p : Nat) (hn : n ≤ 100) (hx : ∀ i, i < n → x i < 256) (hp : p ≤ n) : Ki lch yX8_takes cX8_takes 3 .int (rmk 3) dG (cyI, cyZ, cyO) [.ref a0, .int (bI true)] [(a0, .inr (8, [.int th, .ref aX, .int (nI n), .int (nI (tke x n p)), .int (nI (tko x n p)), .int (nI (skp x n p)), .int va, .int (-1), .ref aT, .ref aD, .ref aS, .ref aU, .int um, .ref aK, .ref aI, .ref aL, .ref aE, .ref aF, .int sm, .ref aP, .ref aW, .int sn, .ref aB, .ref aM])), (aX, .inl (cyI, 100, .inl (nA x)))] (fun r w1 => ∃ (va1 : Int32), w1 = [(a0, .inr (8, [.int th, .ref aX, .int (nI n), .int (nI (tke x n (tke x n p))), .int (nI (tko x n (tke x n p))), .int (nI (skp x n (tke x n p))), .int va1, .int (-1), .ref aT, .ref aD, .ref aS, .ref aU, .int um, .ref aK, .ref aI, .ref aL, .ref aE, .ref aF, .int sm, .ref aP, .ref aW, .int sn, .ref aB, .ref aM])), (aX, .inl (cyI, 100, .inl (nA x)))] ∧ r = va ∧ VV x n (tke x n p) va1) := by
  refine Ki.of (own := RX8) rfl (by decide) (Nat.le_of_ble_eq_true rfl) (fun p0 e0 s0 m0 ar0 be0 me0 cd0 A0 C hr hk hnm hA => ?_)
  refine j_lsub [(0, .ref a0), (1, .int (bI true))] [0, 1] rfl ?_
  refine j_aload_n (pc' := 1) C dX8_takes_0 rfl 0 rfl ?_
  refine j_cVi (As := []) (wr := [(aX, .inl (cyI, 100, .inl (nA x)))]) (pc' := 4) C (c_X8_isWell_y (a0 := a0) (th := th) (aX := aX) (ty := (nI n)) (sp := (nI (tke x n p))) (tk := (nI (tko x n p))) (pl := (nI (skp x n p))) (va := va) (aT := aT) (aD := aD) (aS := aS) (aU := aU) (um := um) (aK := aK) (aI := aI) (aL := aL) (aE := aE) (aF := aF) (sm := sm) (aP := aP) (aW := aW) (sn := sn) (aB := aB) (aM := aM) ) Y_X8_isWell (ml_X8_93) [0] [1] rfl rfl rfl rfl (by decide) rfl rfl rfl dX8_takes_1 rfl rfl rfl (Nat.le_of_ble_eq_true rfl) ⟨Nat.le_of_ble_eq_true rfl, Nat.le_of_ble_eq_true rfl⟩ ⟨Nat.le_of_ble_eq_true rfl, Nat.le_of_ble_eq_true rfl⟩ ⟨rfl, rfl⟩ (fun r1 w1 hQ => ?_)
  obtain ⟨rfl, rfl⟩ := hQ
  refine j_perm [(a0, .inr (8, [.int th, .ref aX, .int (nI n), .int (nI (tke x n p)), .int (nI (tko x n p)), .int (nI (skp x n p)), .int va, .int (-1), .ref aT, .ref aD, .ref aS, .ref aU, .int um, .ref aK, .ref aI, .ref aL, .ref aE, .ref aF, .int sm, .ref aP, .ref aW, .int sn, .ref aB, .ref aM])), (aX, .inl (cyI, 100, .inl (nA x)))] [1, 0] rfl rfl (by decide) ?_
  refine j_b_ne (pc' := 7) C 9 dX8_takes_4 (by decide) rfl (fun c4 => ?_) (fun c4 => ?_)
  · refine j_iload_n (pc' := 10) C dX8_takes_9 rfl 1 rfl ?_
    refine j_b_ne (pc' := 13) C 23 dX8_takes_10 (by decide) rfl (fun c10 => ?_) (fun c10 => ?_)
    · refine j_aload_n (pc' := 24) C dX8_takes_23 rfl 0 rfl ?_
      refine j_get (v := .int va) (pc' := 27) C KX8 0 6 rfl (by decide) fl_X8_83 rfl rfl dX8_takes_24 rfl ?_
      refine j_istore_n (pc' := 28) C [(2, .int va), (0, .ref a0), (1, .int (bI true))] dX8_takes_27 rfl (by decide) rfl ?_
      refine j_aload_n (pc' := 29) C dX8_takes_28 rfl 1 rfl ?_
      refine j_cVv (As := []) (wr := []) (pc' := 32) C (c_X8_advances (a0 := a0) (th := th) (aX := aX) (tk := (nI (tko x n p))) (pl := (nI (skp x n p))) (va := va) (fa := (-1)) (aT := aT) (aD := aD) (aS := aS) (aU := aU) (um := um) (aK := aK) (aI := aI) (aL := aL) (aE := aE) (aF := aF) (sm := sm) (aP := aP) (aW := aW) (sn := sn) (aB := aB) (aM := aM) (x := x) (n := n) (b0 := tke x n p) (hn := by first | assumption | omega) (hx := by first | assumption | omega) (hp := (tke_ge x hp).2)) Y_X8_advances (ml_X8_97) [0, 1] [] rfl rfl rfl rfl (by decide) rfl rfl rfl dX8_takes_29 rfl rfl rfl (Nat.le_of_ble_eq_true rfl) ⟨Nat.le_of_ble_eq_true rfl, Nat.le_of_ble_eq_true rfl⟩ ⟨Nat.le_of_ble_eq_true rfl, Nat.le_of_ble_eq_true rfl⟩ ⟨rfl, rfl⟩ (fun w1 hQ => ?_)
      obtain ⟨va1_2, rfl, hF29⟩ := hQ
      refine j_iload_n (pc' := 33) C dX8_takes_32 rfl 0 rfl ?_
      exact j_iret C hr hk hA dX8_takes_33 (rfl) (⟨_, rfl, rfl, hF29⟩)
    · exact absurd c10 (by decide)
  · exact absurd c4 (by decide)

set_option maxHeartbeats 4000000 in
set_option maxRecDepth 100000 in
theorem c_X8_takes_n {lch : Launch} {dG : va_G} {cyI cyZ cyO : ClassId} (a0 : Nat) (th : Int32) (aX : Nat) (va : Int32) (aT : Nat) (aD : Nat) (aS : Nat) (aU : Nat) (um : Int32) (aK : Nat) (aI : Nat) (aL : Nat) (aE : Nat) (aF : Nat) (sm : Int32) (aP : Nat) (aW : Nat) (sn : Int32) (aB : Nat) (aM : Nat) (x : Nat → Nat) (n : Nat) (p : Nat)  : Ki lch yX8_takes cX8_takes 3 .int (rmk 3) dG (cyI, cyZ, cyO) [.ref a0, .int (bI false)] [(a0, .inr (8, [.int th, .ref aX, .int (nI n), .int (nI (tke x n p)), .int (nI (tko x n p)), .int (nI (skp x n p)), .int va, .int (-1), .ref aT, .ref aD, .ref aS, .ref aU, .int um, .ref aK, .ref aI, .ref aL, .ref aE, .ref aF, .int sm, .ref aP, .ref aW, .int sn, .ref aB, .ref aM])), (aX, .inl (cyI, 100, .inl (nA x)))] (fun r w1 => w1 = [(a0, .inr (8, [.int th, .ref aX, .int (nI n), .int (nI (tke x n p)), .int (nI (tko x n p)), .int (nI (skp x n p)), .int va, .int (nI (skp x n p)), .ref aT, .ref aD, .ref aS, .ref aU, .int um, .ref aK, .ref aI, .ref aL, .ref aE, .ref aF, .int sm, .ref aP, .ref aW, .int sn, .ref aB, .ref aM])), (aX, .inl (cyI, 100, .inl (nA x)))] ∧ r = (nI 0)) := by
  refine Ki.of (own := RX8) rfl (by decide) (Nat.le_of_ble_eq_true rfl) (fun p0 e0 s0 m0 ar0 be0 me0 cd0 A0 C hr hk hnm hA => ?_)
  refine j_lsub [(0, .ref a0), (1, .int (bI false))] [0, 1] rfl ?_
  refine j_aload_n (pc' := 1) C dX8_takes_0 rfl 0 rfl ?_
  refine j_cVi (As := []) (wr := [(aX, .inl (cyI, 100, .inl (nA x)))]) (pc' := 4) C (c_X8_isWell_y (a0 := a0) (th := th) (aX := aX) (ty := (nI n)) (sp := (nI (tke x n p))) (tk := (nI (tko x n p))) (pl := (nI (skp x n p))) (va := va) (aT := aT) (aD := aD) (aS := aS) (aU := aU) (um := um) (aK := aK) (aI := aI) (aL := aL) (aE := aE) (aF := aF) (sm := sm) (aP := aP) (aW := aW) (sn := sn) (aB := aB) (aM := aM) ) Y_X8_isWell (ml_X8_93) [0] [1] rfl rfl rfl rfl (by decide) rfl rfl rfl dX8_takes_1 rfl rfl rfl (Nat.le_of_ble_eq_true rfl) ⟨Nat.le_of_ble_eq_true rfl, Nat.le_of_ble_eq_true rfl⟩ ⟨Nat.le_of_ble_eq_true rfl, Nat.le_of_ble_eq_true rfl⟩ ⟨rfl, rfl⟩ (fun r1 w1 hQ => ?_)
  obtain ⟨rfl, rfl⟩ := hQ
  refine j_perm [(a0, .inr (8, [.int th, .ref aX, .int (nI n), .int (nI (tke x n p)), .int (nI (tko x n p)), .int (nI (skp x n p)), .int va, .int (-1), .ref aT, .ref aD, .ref aS, .ref aU, .int um, .ref aK, .ref aI, .ref aL, .ref aE, .ref aF, .int sm, .ref aP, .ref aW, .int sn, .ref aB, .ref aM])), (aX, .inl (cyI, 100, .inl (nA x)))] [1, 0] rfl rfl (by decide) ?_
  refine j_b_ne (pc' := 7) C 9 dX8_takes_4 (by decide) rfl (fun c4 => ?_) (fun c4 => ?_)
  · refine j_iload_n (pc' := 10) C dX8_takes_9 rfl 1 rfl ?_
    refine j_b_ne (pc' := 13) C 23 dX8_takes_10 (by decide) rfl (fun c10 => ?_) (fun c10 => ?_)
    · exact absurd c10 (by decide)
    · refine j_aload_n (pc' := 14) C dX8_takes_13 rfl 0 rfl ?_
      refine j_aload_n (pc' := 15) C dX8_takes_14 rfl 0 rfl ?_
      refine j_get (v := .int (nI (skp x n p))) (pc' := 18) C KX8 0 5 rfl (by decide) fl_X8_77 rfl rfl dX8_takes_15 rfl ?_
      refine j_put (pc' := 21) C [(a0, .inr (8, [.int th, .ref aX, .int (nI n), .int (nI (tke x n p)), .int (nI (tko x n p)), .int (nI (skp x n p)), .int va, .int (nI (skp x n p)), .ref aT, .ref aD, .ref aS, .ref aU, .int um, .ref aK, .ref aI, .ref aL, .ref aE, .ref aF, .int sm, .ref aP, .ref aW, .int sn, .ref aB, .ref aM])), (aX, .inl (cyI, 100, .inl (nA x)))] KX8 0 7 rfl (by decide) fl_X8_90 rfl rfl rfl rfl (Nat.le_of_ble_eq_true rfl) dX8_takes_18 rfl rfl ?_
      refine j_iconst (v := (nI 0)) (pc' := 22) C dX8_takes_21 rfl (by decide +kernel) ?_
      exact j_iret C hr hk hA dX8_takes_22 (rfl) (⟨rfl, rfl⟩)
  · exact absurd c4 (by decide)

set_option maxHeartbeats 4000000 in
set_option maxRecDepth 100000 in
theorem c_X8_takes_f {lch : Launch} {dG : va_G} {cyI cyZ cyO : ClassId} (a0 : Nat) (th : Int32) (aX : Nat) (ty : Int32) (sp : Int32) (tk : Int32) (pl : Int32) (va : Int32) (aT : Nat) (aD : Nat) (aS : Nat) (aU : Nat) (um : Int32) (aK : Nat) (aI : Nat) (aL : Nat) (aE : Nat) (aF : Nat) (sm : Int32) (aP : Nat) (aW : Nat) (sn : Int32) (aB : Nat) (aM : Nat) (f : Nat) (b : Bool) (hf : f < 2147483648) : Ki lch yX8_takes cX8_takes 3 .int (rmk 3) dG (cyI, cyZ, cyO) [.ref a0, .int (bI b)] [(a0, .inr (8, [.int th, .ref aX, .int ty, .int sp, .int tk, .int pl, .int va, .int (nI f), .ref aT, .ref aD, .ref aS, .ref aU, .int um, .ref aK, .ref aI, .ref aL, .ref aE, .ref aF, .int sm, .ref aP, .ref aW, .int sn, .ref aB, .ref aM]))] (fun r w1 => w1 = [(a0, .inr (8, [.int th, .ref aX, .int ty, .int sp, .int tk, .int pl, .int va, .int (nI f), .ref aT, .ref aD, .ref aS, .ref aU, .int um, .ref aK, .ref aI, .ref aL, .ref aE, .ref aF, .int sm, .ref aP, .ref aW, .int sn, .ref aB, .ref aM]))] ∧ r = (nI 0)) := by
  refine Ki.of (own := RX8) rfl (by decide) (Nat.le_of_ble_eq_true rfl) (fun p0 e0 s0 m0 ar0 be0 me0 cd0 A0 C hr hk hnm hA => ?_)
  refine j_lsub [(0, .ref a0), (1, .int (bI b))] [0, 1] rfl ?_
  refine j_aload_n (pc' := 1) C dX8_takes_0 rfl 0 rfl ?_
  refine j_cVi (As := []) (wr := []) (pc' := 4) C (c_X8_isWell_n (a0 := a0) (th := th) (aX := aX) (ty := ty) (sp := sp) (tk := tk) (pl := pl) (va := va) (aT := aT) (aD := aD) (aS := aS) (aU := aU) (um := um) (aK := aK) (aI := aI) (aL := aL) (aE := aE) (aF := aF) (sm := sm) (aP := aP) (aW := aW) (sn := sn) (aB := aB) (aM := aM) (f := f) (hf := by first | assumption | omega)) Y_X8_isWell (ml_X8_93) [0] [] rfl rfl rfl rfl (by decide) rfl rfl rfl dX8_takes_1 rfl rfl rfl (Nat.le_of_ble_eq_true rfl) ⟨Nat.le_of_ble_eq_true rfl, Nat.le_of_ble_eq_true rfl⟩ ⟨Nat.le_of_ble_eq_true rfl, Nat.le_of_ble_eq_true rfl⟩ ⟨rfl, rfl⟩ (fun r1 w1 hQ => ?_)
  obtain ⟨rfl, rfl⟩ := hQ
  refine j_b_ne (pc' := 7) C 9 dX8_takes_4 (by decide) rfl (fun c4 => ?_) (fun c4 => ?_)
  · exact absurd c4 (by decide)
  · refine j_iconst (v := (nI 0)) (pc' := 8) C dX8_takes_7 rfl (by decide +kernel) ?_
    exact j_iret C hr hk hA dX8_takes_8 (rfl) (⟨rfl, rfl⟩)

set_option maxHeartbeats 4000000 in
set_option maxRecDepth 100000 in
theorem c_X8_isNumber {lch : Launch} {dG : va_G} {cyI cyZ cyO : ClassId} (a0 : Nat) (th : Int32) (aX : Nat) (ty : Int32) (sp : Int32) (pl : Int32) (va : Int32) (fa : Int32) (aT : Nat) (aD : Nat) (aS : Nat) (aU : Nat) (um : Int32) (aK : Nat) (aI : Nat) (aL : Nat) (aE : Nat) (aF : Nat) (sm : Int32) (aP : Nat) (aW : Nat) (sn : Int32) (aB : Nat) (aM : Nat) (x : Nat → Nat) (n : Nat) (p : Nat) (lo : Nat) (hi : Nat) (hv : VV x n p va) (hlo : lo < 10) (hhi : hi < 10) : Ki lch yX8_isNumber cX8_isNumber 3 .boolean (rmk 2) dG (cyI, cyZ, cyO) [.ref a0, .int (nI lo), .int (nI hi)] [(a0, .inr (8, [.int th, .ref aX, .int ty, .int sp, .int (nI (tko x n p)), .int pl, .int va, .int fa, .ref aT, .ref aD, .ref aS, .ref aU, .int um, .ref aK, .ref aI, .ref aL, .ref aE, .ref aF, .int sm, .ref aP, .ref aW, .int sn, .ref aB, .ref aM]))] (fun r w1 => w1 = [(a0, .inr (8, [.int th, .ref aX, .int ty, .int sp, .int (nI (tko x n p)), .int pl, .int va, .int fa, .ref aT, .ref aD, .ref aS, .ref aU, .int um, .ref aK, .ref aI, .ref aL, .ref aE, .ref aF, .int sm, .ref aP, .ref aW, .int sn, .ref aB, .ref aM]))] ∧ r = (bI (okN x n p lo hi))) := by
  refine Ki.of (own := RX8) rfl (by decide) (Nat.le_of_ble_eq_true rfl) (fun p0 e0 s0 m0 ar0 be0 me0 cd0 A0 C hr hk hnm hA => ?_)
  refine j_lsub [(0, .ref a0), (1, .int (nI lo)), (2, .int (nI hi))] [0, 1, 2] rfl ?_
  refine j_aload_n (pc' := 1) C dX8_isNumber_0 rfl 0 rfl ?_
  refine j_get (v := .int (nI (tko x n p))) (pc' := 4) C KX8 0 4 rfl (by decide) fl_X8_80 rfl rfl dX8_isNumber_1 rfl ?_
  refine j_iconst (v := (nI 2)) (pc' := 5) C dX8_isNumber_4 rfl (by decide +kernel) ?_
  refine j_nc_ne (pc' := 8) C 24 dX8_isNumber_5 (by decide) rfl (tko_lt x n p) (by omega) (fun c5 => ?_) (fun c5 => ?_)
  · have hD : isD (tkv x n p) = false := tko_n2 c5
    refine j_iconst (v := (nI 0)) (pc' := 25) C dX8_isNumber_24 rfl (by decide +kernel) ?_
    refine j_top (bI false) (by decide +kernel) ?_
    exact j_iret C hr hk hA dX8_isNumber_25 (nrw_bI _) (⟨rfl, by unfold okN; rw [hD]; first | rfl | (rw [c17]; rfl)⟩)
  · have hD : isD (tkv x n p) = true := tko_2 c5
    have hva := hv.1 hD
    have hd2 := tkv_D hD
    refine j_aload_n (pc' := 9) C dX8_isNumber_8 rfl 0 rfl ?_
    refine j_get (v := .int va) (pc' := 12) C KX8 0 6 rfl (by decide) fl_X8_83 rfl rfl dX8_isNumber_9 rfl ?_
    refine j_top (nI (tkv x n p - 48)) (hva) ?_
    refine j_iload_n (pc' := 13) C dX8_isNumber_12 rfl 1 rfl ?_
    refine j_iload_n (pc' := 14) C dX8_isNumber_13 rfl 2 rfl ?_
    refine j_cSi (As := [.int (nI (tkv x n p - 48)), .int (nI lo), .int (nI hi)]) (wr := [(a0, .inr (8, [.int th, .ref aX, .int ty, .int sp, .int (nI (tko x n p)), .int pl, .int va, .int fa, .ref aT, .ref aD, .ref aS, .ref aU, .int um, .ref aK, .ref aI, .ref aL, .ref aE, .ref aF, .int sm, .ref aP, .ref aW, .int sn, .ref aB, .ref aM]))]) (pc' := 17) C (c_X8_inN (x := tkv x n p - 48) (a := lo) (b := hi) (hxx := by omega) (haa := by omega) (hbb := by omega)) Y_X8_in (ml_X8_63) [] [0] rfl rfl rfl rfl (by decide) dX8_isNumber_14 rfl rfl rfl (Nat.le_of_ble_eq_true rfl) ⟨Nat.le_of_ble_eq_true rfl, Nat.le_of_ble_eq_true rfl⟩ ⟨Nat.le_of_ble_eq_true rfl, Nat.le_of_ble_eq_true rfl⟩ ⟨rfl, rfl⟩ (fun r1 w1 hQ => ?_)
    obtain ⟨rfl, rfl⟩ := hQ
    refine j_perm [(a0, .inr (8, [.int th, .ref aX, .int ty, .int sp, .int (nI (tko x n p)), .int pl, .int va, .int fa, .ref aT, .ref aD, .ref aS, .ref aU, .int um, .ref aK, .ref aI, .ref aL, .ref aE, .ref aF, .int sm, .ref aP, .ref aW, .int sn, .ref aB, .ref aM]))] [0] rfl rfl (by decide) ?_
    refine j_b_eq (pc' := 20) C 24 dX8_isNumber_17 (by decide) rfl (fun c17 => ?_) (fun c17 => ?_)
    · refine j_iconst (v := (nI 0)) (pc' := 25) C dX8_isNumber_24 rfl (by decide +kernel) ?_
      refine j_top (bI false) (by decide +kernel) ?_
      exact j_iret C hr hk hA dX8_isNumber_25 (nrw_bI _) (⟨rfl, by unfold okN; rw [hD]; first | rfl | (rw [c17]; rfl)⟩)
    · refine j_iconst (v := (nI 1)) (pc' := 21) C dX8_isNumber_20 rfl (by decide +kernel) ?_
      refine j_goto C 25 dX8_isNumber_21 (by decide) ?_
      refine j_top (bI true) (by decide +kernel) ?_
      exact j_iret C hr hk hA dX8_isNumber_25 (nrw_bI _) (⟨rfl, by unfold okN; rw [hD]; first | rfl | (rw [c17]; rfl)⟩)

set_option maxHeartbeats 4000000 in
set_option maxRecDepth 100000 in
theorem c_X8_begins {lch : Launch} {dG : va_G} {cyI cyZ cyO : ClassId} (a0 : Nat) (th : Int32) (aX : Nat) (ty : Int32) (sp : Int32) (tk : Int32) (pl : Int32) (va : Int32) (fa : Int32) (aT : Nat) (aD : Nat) (aS : Nat) (aU : Nat) (um : Int32) (aK : Nat) (aI : Nat) (aL : Nat) (aE : Nat) (aF : Nat) (sm : Int32) (aP : Nat) (aW : Nat) (sn : Int32) (aB : Nat) (aM : Nat) (d : Nat → Nat) (hd : ∀ k, 42 ≤ k → d k = 0) : Kv lch yX8_begins cX8_begins 2 (rmk 1) dG (cyI, cyZ, cyO) [.ref a0] [(a0, .inr (8, [.int th, .ref aX, .int ty, .int sp, .int tk, .int pl, .int va, .int fa, .ref aT, .ref aD, .ref aS, .ref aU, .int um, .ref aK, .ref aI, .ref aL, .ref aE, .ref aF, .int sm, .ref aP, .ref aW, .int sn, .ref aB, .ref aM])), (aD, .inl (cyI, 42, .inl (nA d)))] (fun w1 => w1 = [(a0, .inr (8, [.int th, .ref aX, .int ty, .int sp, .int tk, .int pl, .int va, .int fa, .ref aT, .ref aD, .ref aS, .ref aU, .int um, .ref aK, .ref aI, .ref aL, .ref aE, .ref aF, .int sm, .ref aP, .ref aW, .int sn, .ref aB, .ref aM])), (aD, .inl (cyI, 42, .inl (nA d0N)))]) := by
  refine Kv.of (own := RX8) rfl (by decide) (Nat.le_of_ble_eq_true rfl) (fun p0 e0 s0 m0 ar0 be0 me0 cd0 A0 C hr hk hnm hA => ?_)
  refine j_lsub [(0, .ref a0)] [0] rfl ?_
  refine j_iconst (v := (nI 0)) (pc' := 1) C dX8_begins_0 rfl (by decide +kernel) ?_
  refine j_istore_n (pc' := 2) C [(1, .int (nI 0)), (0, .ref a0)] dX8_begins_1 rfl (by decide) rfl ?_
  refine j_lsub [(0, .ref a0), (1, .int (nI 0))] [1, 0] rfl ?_
  refine j_loop2 (fun (i : Nat) (y : Nat → Nat) => [(a0, .inr (8, [.int th, .ref aX, .int ty, .int sp, .int tk, .int pl, .int va, .int fa, .ref aT, .ref aD, .ref aS, .ref aU, .int um, .ref aK, .ref aI, .ref aL, .ref aE, .ref aF, .int sm, .ref aP, .ref aW, .int sn, .ref aB, .ref aM])), (aD, .inl (cyI, 42, .inl (nA y)))]) (fun (i : Nat) (y : Nat → Nat) => [(0, .ref a0), (1, .int (nI i))]) (fun (i : Nat) (y : Nat → Nat) => []) (fun (i : Nat) (y : Nat → Nat) => i ≤ 42 ∧ y = flN d (fun _ => 0) 0 i) (fun (i : Nat) (y : Nat → Nat) => 42 - i) ?_ 0 d ?_
  · intro i y hI2 ih2
    obtain ⟨hi, hy⟩ := hI2
    refine j_iload_n (pc' := 3) C dX8_begins_2 rfl 1 rfl ?_
    refine j_bipush (v := (nI 42)) (pc' := 5) C dX8_begins_3 rfl (by decide +kernel) ?_
    refine j_nc_ge (pc' := 8) C 21 dX8_begins_5 (by decide) rfl (by omega) (by omega) (fun c5 => ?_) (fun c5 => ?_)
    · refine j_aload_n (pc' := 22) C dX8_begins_21 rfl 0 rfl ?_
      refine j_get (v := .ref aD) (pc' := 25) C KX8 0 9 rfl (by decide) fl_X8_16 rfl rfl dX8_begins_22 rfl ?_
      refine j_iconst (v := (nI 0)) (pc' := 26) C dX8_begins_25 rfl (by decide +kernel) ?_
      refine j_iconst (v := (nI 3)) (pc' := 27) C dX8_begins_26 rfl (by decide +kernel) ?_
      refine j_nast (pc' := 28) C [(a0, .inr (8, [.int th, .ref aX, .int ty, .int sp, .int tk, .int pl, .int va, .int fa, .ref aT, .ref aD, .ref aS, .ref aU, .int um, .ref aK, .ref aI, .ref aL, .ref aE, .ref aF, .int sm, .ref aP, .ref aW, .int sn, .ref aB, .ref aM])), (aD, .inl (cyI, 42, .inl (nA (uN y 0 3))))] 1 rfl (by omega) (by decide) dX8_begins_27 rfl rfl ?_
      exact j_vret C hr hk hA dX8_begins_28 (by rw [hy, show i = 42 by omega, d0_of hd])
    · refine j_aload_n (pc' := 9) C dX8_begins_8 rfl 0 rfl ?_
      refine j_get (v := .ref aD) (pc' := 12) C KX8 0 9 rfl (by decide) fl_X8_16 rfl rfl dX8_begins_9 rfl ?_
      refine j_iload_n (pc' := 13) C dX8_begins_12 rfl 1 rfl ?_
      refine j_iconst (v := (nI 0)) (pc' := 14) C dX8_begins_13 rfl (by decide +kernel) ?_
      refine j_nast (pc' := 15) C [(a0, .inr (8, [.int th, .ref aX, .int ty, .int sp, .int tk, .int pl, .int va, .int fa, .ref aT, .ref aD, .ref aS, .ref aU, .int um, .ref aK, .ref aI, .ref aL, .ref aE, .ref aF, .int sm, .ref aP, .ref aW, .int sn, .ref aB, .ref aM])), (aD, .inl (cyI, 42, .inl (nA (uN y i 0))))] 1 rfl (by omega) (by decide) dX8_begins_14 rfl rfl ?_
      refine j_iinc (v := (nI (i + 1))) (pc' := 18) C [(1, .int (nI (i + 1))), (0, .ref a0)] dX8_begins_15 rfl 1 rfl (inc_n i 1) (by decide) rfl ?_
      refine j_goto C 2 dX8_begins_18 (by decide) ?_
      refine j_lsub [(0, .ref a0), (1, .int (nI (i + 1)))] [1, 0] rfl ?_
      exact ih2 (i + 1) (uN y i 0) (⟨by omega, by rw [hy, ← flN_s]; simp only [Nat.zero_add]⟩) (by omega)
  · exact ⟨Nat.zero_le _, (flN_0 _ _ _).symm⟩

set_option maxHeartbeats 4000000 in
set_option maxRecDepth 100000 in
theorem c_X8_isFreeNode {lch : Launch} {dG : va_G} {cyI cyZ cyO : ClassId} (a0 : Nat) (th : Int32) (aX : Nat) (ty : Int32) (sp : Int32) (tk : Int32) (pl : Int32) (va : Int32) (fa : Int32) (aT : Nat) (aD : Nat) (aS : Nat) (aU : Nat) (um : Int32) (aK : Nat) (aI : Nat) (aL : Nat) (aE : Nat) (aF : Nat) (sm : Int32) (aP : Nat) (aW : Nat) (sn : Int32) (aB : Nat) (aM : Nat) (d : Nat → Nat) (u : Nat) (hT : WT d) (hu : u < 10) : Ki lch yX8_isFreeNode cX8_isFreeNode 4 .boolean (rmk 1) dG (cyI, cyZ, cyO) [.ref a0, .int (nI u)] [(a0, .inr (8, [.int th, .ref aX, .int ty, .int sp, .int tk, .int pl, .int va, .int fa, .ref aT, .ref aD, .ref aS, .ref aU, .int um, .ref aK, .ref aI, .ref aL, .ref aE, .ref aF, .int sm, .ref aP, .ref aW, .int sn, .ref aB, .ref aM])), (aD, .inl (cyI, 42, .inl (nA d)))] (fun r w1 => w1 = [(a0, .inr (8, [.int th, .ref aX, .int ty, .int sp, .int tk, .int pl, .int va, .int fa, .ref aT, .ref aD, .ref aS, .ref aU, .int um, .ref aK, .ref aI, .ref aL, .ref aE, .ref aF, .int sm, .ref aP, .ref aW, .int sn, .ref aB, .ref aM])), (aD, .inl (cyI, 42, .inl (nA d)))] ∧ r = (bI (frF d u (d 2)))) := by
  have h1 := hT.n
  refine Ki.of (own := RX8) rfl (by decide) (Nat.le_of_ble_eq_true rfl) (fun p0 e0 s0 m0 ar0 be0 me0 cd0 A0 C hr hk hnm hA => ?_)
  refine j_lsub [(0, .ref a0), (1, .int (nI u))] [0, 1] rfl ?_
  refine j_iload_n (pc' := 1) C dX8_isFreeNode_0 rfl 1 rfl ?_
  refine j_nz_eq (pc' := 4) C 8 dX8_isFreeNode_1 (by decide) rfl (by omega) (fun c1 => ?_) (fun c1 => ?_)
  · refine j_iconst (v := (nI 0)) (pc' := 9) C dX8_isFreeNode_8 rfl (by decide +kernel) ?_
    refine j_istore_n (pc' := 10) C [(2, .int (nI 0)), (0, .ref a0), (1, .int (nI u))] dX8_isFreeNode_9 rfl (by decide) rfl ?_
    refine j_iconst (v := (nI 0)) (pc' := 11) C dX8_isFreeNode_10 rfl (by decide +kernel) ?_
    refine j_istore_n (pc' := 12) C [(3, .int (nI 0)), (2, .int (nI 0)), (0, .ref a0), (1, .int (nI u))] dX8_isFreeNode_11 rfl (by decide) rfl ?_
    refine j_lsub [(0, .ref a0), (1, .int (nI u)), (2, .int (nI 0)), (3, .int (nI 0))] [2, 3, 1, 0] rfl ?_
    refine j_loop2 (fun (i : Nat) (b : Bool) => [(a0, .inr (8, [.int th, .ref aX, .int ty, .int sp, .int tk, .int pl, .int va, .int fa, .ref aT, .ref aD, .ref aS, .ref aU, .int um, .ref aK, .ref aI, .ref aL, .ref aE, .ref aF, .int sm, .ref aP, .ref aW, .int sn, .ref aB, .ref aM])), (aD, .inl (cyI, 42, .inl (nA d)))]) (fun (i : Nat) (b : Bool) => [(0, .ref a0), (1, .int (nI u)), (2, .int (bI b)), (3, .int (nI i))]) (fun (i : Nat) (b : Bool) => []) (fun (i : Nat) (b : Bool) => i ≤ d 2 ∧ b = frF d u i) (fun (i : Nat) (b : Bool) => d 2 - i) ?_ 0 false ?_
    · intro i b hI12 ih12
      obtain ⟨hi, hb⟩ := hI12
      refine j_iload_n (pc' := 13) C dX8_isFreeNode_12 rfl 3 rfl ?_
      refine j_aload_n (pc' := 14) C dX8_isFreeNode_13 rfl 0 rfl ?_
      refine j_get (v := .ref aD) (pc' := 17) C KX8 0 9 rfl (by decide) fl_X8_16 rfl rfl dX8_isFreeNode_14 rfl ?_
      refine j_iconst (v := (nI 2)) (pc' := 18) C dX8_isFreeNode_17 rfl (by decide +kernel) ?_
      refine j_nald (pc' := 19) C 1 rfl (by omega) (by decide) dX8_isFreeNode_18 rfl ?_
      refine j_nc_ge (pc' := 22) C 51 dX8_isFreeNode_19 (by decide) rfl (by omega) (by omega) (fun c19 => ?_) (fun c19 => ?_)
      · refine j_iload_n (pc' := 52) C dX8_isFreeNode_51 rfl 2 rfl ?_
        exact j_iret C hr hk hA dX8_isFreeNode_52 (nrw_bI _) (⟨rfl, by rw [hb, show i = d 2 by omega]⟩)
      · have h2 := hT.l c19
        refine j_iload_n (pc' := 23) C dX8_isFreeNode_22 rfl 2 rfl ?_
        refine j_b_eq (pc' := 26) C 43 dX8_isFreeNode_23 (by decide) rfl (fun c23 => ?_) (fun c23 => ?_)
        · refine j_iconst (v := (nI 0)) (pc' := 44) C dX8_isFreeNode_43 rfl (by decide +kernel) ?_
          refine j_istore_n (pc' := 45) C [(2, .int (nI 0)), (0, .ref a0), (1, .int (nI u)), (3, .int (nI i))] dX8_isFreeNode_44 rfl (by decide) rfl ?_
          refine j_iinc (v := (nI (i + 1))) (pc' := 48) C [(3, .int (nI (i + 1))), (2, .int (nI 0)), (0, .ref a0), (1, .int (nI u))] dX8_isFreeNode_45 rfl 3 rfl (inc_n i 1) (by decide) rfl ?_
          refine j_goto C 12 dX8_isFreeNode_48 (by decide) ?_
          refine j_lsub [(0, .ref a0), (1, .int (nI u)), (2, .int (nI 0)), (3, .int (nI (i + 1)))] [2, 3, 1, 0] rfl ?_
          exact ih12 (i + 1) false (⟨by omega, by rw [frF, ← hb]; simp_all⟩) (by omega)
        · refine j_aload_n (pc' := 27) C dX8_isFreeNode_26 rfl 0 rfl ?_
          refine j_get (v := .ref aD) (pc' := 30) C KX8 0 9 rfl (by decide) fl_X8_16 rfl rfl dX8_isFreeNode_27 rfl ?_
          refine j_bipush (v := (nI 39)) (pc' := 32) C dX8_isFreeNode_30 rfl (by decide +kernel) ?_
          refine j_iload_n (pc' := 33) C dX8_isFreeNode_32 rfl 3 rfl ?_
          refine j_iadd (v := (nI (39 + i))) (pc' := 34) C dX8_isFreeNode_33 rfl (nI_add 39 i) ?_
          refine j_nald (pc' := 35) C 1 rfl (by omega) (by decide) dX8_isFreeNode_34 rfl ?_
          refine j_iload_n (pc' := 36) C dX8_isFreeNode_35 rfl 1 rfl ?_
          refine j_nc_eq (pc' := 39) C 43 dX8_isFreeNode_36 (by decide) rfl (by omega) (by omega) (fun c36 => ?_) (fun c36 => ?_)
          · refine j_iconst (v := (nI 0)) (pc' := 44) C dX8_isFreeNode_43 rfl (by decide +kernel) ?_
            refine j_istore_n (pc' := 45) C [(2, .int (nI 0)), (0, .ref a0), (1, .int (nI u)), (3, .int (nI i))] dX8_isFreeNode_44 rfl (by decide) rfl ?_
            refine j_iinc (v := (nI (i + 1))) (pc' := 48) C [(3, .int (nI (i + 1))), (2, .int (nI 0)), (0, .ref a0), (1, .int (nI u))] dX8_isFreeNode_45 rfl 3 rfl (inc_n i 1) (by decide) rfl ?_
            refine j_goto C 12 dX8_isFreeNode_48 (by decide) ?_
            refine j_lsub [(0, .ref a0), (1, .int (nI u)), (2, .int (nI 0)), (3, .int (nI (i + 1)))] [2, 3, 1, 0] rfl ?_
            exact ih12 (i + 1) false (⟨by omega, by rw [frF, ← hb]; simp_all⟩) (by omega)
          · refine j_iconst (v := (nI 1)) (pc' := 40) C dX8_isFreeNode_39 rfl (by decide +kernel) ?_
            refine j_goto C 44 dX8_isFreeNode_40 (by decide) ?_
            refine j_istore_n (pc' := 45) C [(2, .int (nI 1)), (0, .ref a0), (1, .int (nI u)), (3, .int (nI i))] dX8_isFreeNode_44 rfl (by decide) rfl ?_
            refine j_iinc (v := (nI (i + 1))) (pc' := 48) C [(3, .int (nI (i + 1))), (2, .int (nI 1)), (0, .ref a0), (1, .int (nI u))] dX8_isFreeNode_45 rfl 3 rfl (inc_n i 1) (by decide) rfl ?_
            refine j_goto C 12 dX8_isFreeNode_48 (by decide) ?_
            refine j_lsub [(0, .ref a0), (1, .int (nI u)), (2, .int (nI 1)), (3, .int (nI (i + 1)))] [2, 3, 1, 0] rfl ?_
            exact ih12 (i + 1) true (⟨by omega, by rw [frF, ← hb]; simp_all⟩) (by omega)
    · exact ⟨Nat.zero_le _, by unfold frF; first | rw [decide_eq_true c1] | rw [decide_eq_false (by omega)]⟩
  · refine j_iconst (v := (nI 1)) (pc' := 5) C dX8_isFreeNode_4 rfl (by decide +kernel) ?_
    refine j_goto C 9 dX8_isFreeNode_5 (by decide) ?_
    refine j_istore_n (pc' := 10) C [(2, .int (nI 1)), (0, .ref a0), (1, .int (nI u))] dX8_isFreeNode_9 rfl (by decide) rfl ?_
    refine j_iconst (v := (nI 0)) (pc' := 11) C dX8_isFreeNode_10 rfl (by decide +kernel) ?_
    refine j_istore_n (pc' := 12) C [(3, .int (nI 0)), (2, .int (nI 1)), (0, .ref a0), (1, .int (nI u))] dX8_isFreeNode_11 rfl (by decide) rfl ?_
    refine j_lsub [(0, .ref a0), (1, .int (nI u)), (2, .int (nI 1)), (3, .int (nI 0))] [2, 3, 1, 0] rfl ?_
    refine j_loop2 (fun (i : Nat) (b : Bool) => [(a0, .inr (8, [.int th, .ref aX, .int ty, .int sp, .int tk, .int pl, .int va, .int fa, .ref aT, .ref aD, .ref aS, .ref aU, .int um, .ref aK, .ref aI, .ref aL, .ref aE, .ref aF, .int sm, .ref aP, .ref aW, .int sn, .ref aB, .ref aM])), (aD, .inl (cyI, 42, .inl (nA d)))]) (fun (i : Nat) (b : Bool) => [(0, .ref a0), (1, .int (nI u)), (2, .int (bI b)), (3, .int (nI i))]) (fun (i : Nat) (b : Bool) => []) (fun (i : Nat) (b : Bool) => i ≤ d 2 ∧ b = frF d u i) (fun (i : Nat) (b : Bool) => d 2 - i) ?_ 0 true ?_
    · intro i b hI12 ih12
      obtain ⟨hi, hb⟩ := hI12
      refine j_iload_n (pc' := 13) C dX8_isFreeNode_12 rfl 3 rfl ?_
      refine j_aload_n (pc' := 14) C dX8_isFreeNode_13 rfl 0 rfl ?_
      refine j_get (v := .ref aD) (pc' := 17) C KX8 0 9 rfl (by decide) fl_X8_16 rfl rfl dX8_isFreeNode_14 rfl ?_
      refine j_iconst (v := (nI 2)) (pc' := 18) C dX8_isFreeNode_17 rfl (by decide +kernel) ?_
      refine j_nald (pc' := 19) C 1 rfl (by omega) (by decide) dX8_isFreeNode_18 rfl ?_
      refine j_nc_ge (pc' := 22) C 51 dX8_isFreeNode_19 (by decide) rfl (by omega) (by omega) (fun c19 => ?_) (fun c19 => ?_)
      · refine j_iload_n (pc' := 52) C dX8_isFreeNode_51 rfl 2 rfl ?_
        exact j_iret C hr hk hA dX8_isFreeNode_52 (nrw_bI _) (⟨rfl, by rw [hb, show i = d 2 by omega]⟩)
      · have h2 := hT.l c19
        refine j_iload_n (pc' := 23) C dX8_isFreeNode_22 rfl 2 rfl ?_
        refine j_b_eq (pc' := 26) C 43 dX8_isFreeNode_23 (by decide) rfl (fun c23 => ?_) (fun c23 => ?_)
        · refine j_iconst (v := (nI 0)) (pc' := 44) C dX8_isFreeNode_43 rfl (by decide +kernel) ?_
          refine j_istore_n (pc' := 45) C [(2, .int (nI 0)), (0, .ref a0), (1, .int (nI u)), (3, .int (nI i))] dX8_isFreeNode_44 rfl (by decide) rfl ?_
          refine j_iinc (v := (nI (i + 1))) (pc' := 48) C [(3, .int (nI (i + 1))), (2, .int (nI 0)), (0, .ref a0), (1, .int (nI u))] dX8_isFreeNode_45 rfl 3 rfl (inc_n i 1) (by decide) rfl ?_
          refine j_goto C 12 dX8_isFreeNode_48 (by decide) ?_
          refine j_lsub [(0, .ref a0), (1, .int (nI u)), (2, .int (nI 0)), (3, .int (nI (i + 1)))] [2, 3, 1, 0] rfl ?_
          exact ih12 (i + 1) false (⟨by omega, by rw [frF, ← hb]; simp_all⟩) (by omega)
        · refine j_aload_n (pc' := 27) C dX8_isFreeNode_26 rfl 0 rfl ?_
          refine j_get (v := .ref aD) (pc' := 30) C KX8 0 9 rfl (by decide) fl_X8_16 rfl rfl dX8_isFreeNode_27 rfl ?_
          refine j_bipush (v := (nI 39)) (pc' := 32) C dX8_isFreeNode_30 rfl (by decide +kernel) ?_
          refine j_iload_n (pc' := 33) C dX8_isFreeNode_32 rfl 3 rfl ?_
          refine j_iadd (v := (nI (39 + i))) (pc' := 34) C dX8_isFreeNode_33 rfl (nI_add 39 i) ?_
          refine j_nald (pc' := 35) C 1 rfl (by omega) (by decide) dX8_isFreeNode_34 rfl ?_
          refine j_iload_n (pc' := 36) C dX8_isFreeNode_35 rfl 1 rfl ?_
          refine j_nc_eq (pc' := 39) C 43 dX8_isFreeNode_36 (by decide) rfl (by omega) (by omega) (fun c36 => ?_) (fun c36 => ?_)
          · refine j_iconst (v := (nI 0)) (pc' := 44) C dX8_isFreeNode_43 rfl (by decide +kernel) ?_
            refine j_istore_n (pc' := 45) C [(2, .int (nI 0)), (0, .ref a0), (1, .int (nI u)), (3, .int (nI i))] dX8_isFreeNode_44 rfl (by decide) rfl ?_
            refine j_iinc (v := (nI (i + 1))) (pc' := 48) C [(3, .int (nI (i + 1))), (2, .int (nI 0)), (0, .ref a0), (1, .int (nI u))] dX8_isFreeNode_45 rfl 3 rfl (inc_n i 1) (by decide) rfl ?_
            refine j_goto C 12 dX8_isFreeNode_48 (by decide) ?_
            refine j_lsub [(0, .ref a0), (1, .int (nI u)), (2, .int (nI 0)), (3, .int (nI (i + 1)))] [2, 3, 1, 0] rfl ?_
            exact ih12 (i + 1) false (⟨by omega, by rw [frF, ← hb]; simp_all⟩) (by omega)
          · refine j_iconst (v := (nI 1)) (pc' := 40) C dX8_isFreeNode_39 rfl (by decide +kernel) ?_
            refine j_goto C 44 dX8_isFreeNode_40 (by decide) ?_
            refine j_istore_n (pc' := 45) C [(2, .int (nI 1)), (0, .ref a0), (1, .int (nI u)), (3, .int (nI i))] dX8_isFreeNode_44 rfl (by decide) rfl ?_
            refine j_iinc (v := (nI (i + 1))) (pc' := 48) C [(3, .int (nI (i + 1))), (2, .int (nI 1)), (0, .ref a0), (1, .int (nI u))] dX8_isFreeNode_45 rfl 3 rfl (inc_n i 1) (by decide) rfl ?_
            refine j_goto C 12 dX8_isFreeNode_48 (by decide) ?_
            refine j_lsub [(0, .ref a0), (1, .int (nI u)), (2, .int (nI 1)), (3, .int (nI (i + 1)))] [2, 3, 1, 0] rfl ?_
            exact ih12 (i + 1) true (⟨by omega, by rw [frF, ← hb]; simp_all⟩) (by omega)
    · exact ⟨Nat.zero_le _, by unfold frF; first | rw [decide_eq_true c1] | rw [decide_eq_false (by omega)]⟩

set_option maxHeartbeats 4000000 in
set_option maxRecDepth 100000 in
theorem c_X8_readsContact {lch : Launch} {dG : va_G} {cyI cyZ cyO : ClassId} (a0 : Nat) (th : Int32) (aX : Nat) (va : Int32) (aT : Nat) (aD : Nat) (aS : Nat) (aU : Nat) (um : Int32) (aK : Nat) (aI : Nat) (aL : Nat) (aE : Nat) (aF : Nat) (sm : Int32) (aP : Nat) (aW : Nat) (sn : Int32) (aB : Nat) (aM : Nat) (x : Nat → Nat) (d : Nat → Nat) (n : Nat) (p : Nat) (kd : Nat) (hn : n ≤ 100) (hx : ∀ i, i < n → x i < 256) (hp : p ≤ n) (hT : WT d) (hc : d 1 < 9) (hkd : kd < 4) (hv : VV x n p va) : Kv lch yX8_readsContact cX8_readsContact 4 (rmk 4) dG (cyI, cyZ, cyO) [.ref a0, .int (nI kd)] [(a0, .inr (8, [.int th, .ref aX, .int (nI n), .int (nI (tke x n p)), .int (nI (tko x n p)), .int (nI (skp x n p)), .int va, .int (-1), .ref aT, .ref aD, .ref aS, .ref aU, .int um, .ref aK, .ref aI, .ref aL, .ref aE, .ref aF, .int sm, .ref aP, .ref aW, .int sn, .ref aB, .ref aM])), (aX, .inl (cyI, 100, .inl (nA x))), (aD, .inl (cyI, 42, .inl (nA d)))] (fun w1 => ∃ (sp1 : Int32), ∃ (tk1 : Int32), ∃ (pl1 : Int32), ∃ (va1 : Int32), ∃ (fa1 : Int32), ∃ (d1 : Nat → Nat), w1 = [(a0, .inr (8, [.int th, .ref aX, .int (nI n), .int sp1, .int tk1, .int pl1, .int va1, .int fa1, .ref aT, .ref aD, .ref aS, .ref aU, .int um, .ref aK, .ref aI, .ref aL, .ref aE, .ref aF, .int sm, .ref aP, .ref aW, .int sn, .ref aB, .ref aM])), (aX, .inl (cyI, 100, .inl (nA x))), (aD, .inl (cyI, 42, .inl (nA d1)))] ∧ RF x n (rdC x n kd p d) d sp1 tk1 pl1 va1 fa1 d1) := by
  have h1 := hT.n
  have hg1 := tke_ge x hp
  have hg2 := tke_ge x hg1.2
  refine Kv.of (own := RX8) rfl (by decide) (Nat.le_of_ble_eq_true rfl) (fun p0 e0 s0 m0 ar0 be0 me0 cd0 A0 C hr hk hnm hA => ?_)
  refine j_lsub [(0, .ref a0), (1, .int (nI kd))] [0, 1] rfl ?_
  refine j_aload_n (pc' := 1) C dX8_readsContact_0 rfl 0 rfl ?_
  refine j_get (v := .ref aD) (pc' := 4) C KX8 0 9 rfl (by decide) fl_X8_16 rfl rfl dX8_readsContact_1 rfl ?_
  refine j_iconst (v := (nI 1)) (pc' := 5) C dX8_readsContact_4 rfl (by decide +kernel) ?_
  refine j_nald (pc' := 6) C 2 rfl (by omega) (by decide) dX8_readsContact_5 rfl ?_
  refine j_istore_n (pc' := 7) C [(2, .int (nI (d 1))), (0, .ref a0), (1, .int (nI kd))] dX8_readsContact_6 rfl (by decide) rfl ?_
  refine j_aload_n (pc' := 8) C dX8_readsContact_7 rfl 1 rfl ?_
  refine j_get (v := .ref aD) (pc' := 11) C KX8 0 9 rfl (by decide) fl_X8_16 rfl rfl dX8_readsContact_8 rfl ?_
  refine j_iconst (v := (nI 0)) (pc' := 12) C dX8_readsContact_11 rfl (by decide +kernel) ?_
  refine j_nald (pc' := 13) C 2 rfl (by omega) (by decide) dX8_readsContact_12 rfl ?_
  refine j_iconst (v := (nI 1)) (pc' := 14) C dX8_readsContact_13 rfl (by decide +kernel) ?_
  refine j_isub (v := (nI ((d 0) - 1))) (pc' := 15) C dX8_readsContact_14 rfl (pk_sub (by omega)) ?_
  refine j_istore_n (pc' := 16) C [(3, .int (nI ((d 0) - 1))), (2, .int (nI (d 1))), (0, .ref a0), (1, .int (nI kd))] dX8_readsContact_15 rfl (by decide) rfl ?_
  refine j_aload_n (pc' := 17) C dX8_readsContact_16 rfl 2 rfl ?_
  refine j_get (v := .ref aD) (pc' := 20) C KX8 0 9 rfl (by decide) fl_X8_16 rfl rfl dX8_readsContact_17 rfl ?_
  refine j_iconst (v := (nI 3)) (pc' := 21) C dX8_readsContact_20 rfl (by decide +kernel) ?_
  refine j_iload_n (pc' := 22) C dX8_readsContact_21 rfl 1 rfl ?_
  refine j_iadd (v := (nI (3 + (d 1)))) (pc' := 23) C dX8_readsContact_22 rfl (nI_add 3 (d 1)) ?_
  refine j_iload_n (pc' := 24) C dX8_readsContact_23 rfl 3 rfl ?_
  refine j_nast (pc' := 25) C [(a0, .inr (8, [.int th, .ref aX, .int (nI n), .int (nI (tke x n p)), .int (nI (tko x n p)), .int (nI (skp x n p)), .int va, .int (-1), .ref aT, .ref aD, .ref aS, .ref aU, .int um, .ref aK, .ref aI, .ref aL, .ref aE, .ref aF, .int sm, .ref aP, .ref aW, .int sn, .ref aB, .ref aM])), (aX, .inl (cyI, 100, .inl (nA x))), (aD, .inl (cyI, 42, .inl (nA (uN d (3 + (d 1)) kd))))] 2 rfl (by omega) (by decide) dX8_readsContact_24 rfl rfl ?_
  refine j_aload_n (pc' := 26) C dX8_readsContact_25 rfl 2 rfl ?_
  refine j_get (v := .ref aD) (pc' := 29) C KX8 0 9 rfl (by decide) fl_X8_16 rfl rfl dX8_readsContact_26 rfl ?_
  refine j_bipush (v := (nI 12)) (pc' := 31) C dX8_readsContact_29 rfl (by decide +kernel) ?_
  refine j_iload_n (pc' := 32) C dX8_readsContact_31 rfl 1 rfl ?_
  refine j_iadd (v := (nI (12 + (d 1)))) (pc' := 33) C dX8_readsContact_32 rfl (nI_add 12 (d 1)) ?_
  refine j_aload_n (pc' := 34) C dX8_readsContact_33 rfl 2 rfl ?_
  refine j_aload_n (pc' := 35) C dX8_readsContact_34 rfl 2 rfl ?_
  refine j_iconst (v := (nI 0)) (pc' := 36) C dX8_readsContact_35 rfl (by decide +kernel) ?_
  refine j_iload_n (pc' := 37) C dX8_readsContact_36 rfl 0 rfl ?_
  refine j_cVi (As := [.int (nI 0), .int (nI ((d 0) - 1))]) (wr := [(aX, .inl (cyI, 100, .inl (nA x))), (aD, .inl (cyI, 42, .inl (nA (uN d (3 + (d 1)) kd))))]) (pc' := 40) C (c_X8_isNumber (a0 := a0) (th := th) (aX := aX) (ty := (nI n)) (sp := (nI (tke x n p))) (pl := (nI (skp x n p))) (va := va) (fa := (-1)) (aT := aT) (aD := aD) (aS := aS) (aU := aU) (um := um) (aK := aK) (aI := aI) (aL := aL) (aE := aE) (aF := aF) (sm := sm) (aP := aP) (aW := aW) (sn := sn) (aB := aB) (aM := aM) (x := x) (n := n) (p := p) (lo := 0) (hi := (d 0) - 1) (hv := hv) (hlo := by omega) (hhi := by omega)) Y_X8_isNumber (ml_X8_100) [0] [1, 2] rfl rfl rfl rfl (by decide) rfl rfl rfl dX8_readsContact_37 rfl rfl rfl (Nat.le_of_ble_eq_true rfl) ⟨Nat.le_of_ble_eq_true rfl, Nat.le_of_ble_eq_true rfl⟩ ⟨Nat.le_of_ble_eq_true rfl, Nat.le_of_ble_eq_true rfl⟩ ⟨rfl, rfl⟩ (fun r1 w1 hQ => ?_)
  obtain ⟨rfl, rfl⟩ := hQ
  refine j_perm [(a0, .inr (8, [.int th, .ref aX, .int (nI n), .int (nI (tke x n p)), .int (nI (tko x n p)), .int (nI (skp x n p)), .int va, .int (-1), .ref aT, .ref aD, .ref aS, .ref aU, .int um, .ref aK, .ref aI, .ref aL, .ref aE, .ref aF, .int sm, .ref aP, .ref aW, .int sn, .ref aB, .ref aM])), (aX, .inl (cyI, 100, .inl (nA x))), (aD, .inl (cyI, 42, .inl (nA (uN d (3 + (d 1)) kd))))] [2, 0, 1] rfl rfl (by decide) ?_
  rcases Bool.eq_false_or_eq_true (okN x n p 0 ((d 0) - 1)) with hb40 | hb40
  · refine j_top (bI true) (by rw [hb40]) ?_
    refine j_cVi (As := [.int (bI true)]) (wr := [(aD, .inl (cyI, 42, .inl (nA (uN d (3 + (d 1)) kd))))]) (pc' := 43) C (c_X8_takes_y (a0 := a0) (th := th) (aX := aX) (va := va) (aT := aT) (aD := aD) (aS := aS) (aU := aU) (um := um) (aK := aK) (aI := aI) (aL := aL) (aE := aE) (aF := aF) (sm := sm) (aP := aP) (aW := aW) (sn := sn) (aB := aB) (aM := aM) (x := x) (n := n) (p := p) (hn := by first | assumption | omega) (hx := by first | assumption | omega) (hp := hp)) Y_X8_takes (ml_X8_104) [0, 1] [2] rfl rfl rfl rfl (by decide) rfl rfl rfl dX8_readsContact_40 rfl rfl rfl (Nat.le_of_ble_eq_true rfl) ⟨Nat.le_of_ble_eq_true rfl, Nat.le_of_ble_eq_true rfl⟩ ⟨Nat.le_of_ble_eq_true rfl, Nat.le_of_ble_eq_true rfl⟩ ⟨rfl, rfl⟩ (fun r2 w1 hQ => ?_)
    obtain ⟨va1_2, rfl, rfl, hF40⟩ := hQ
    refine j_perm [(a0, .inr (8, [.int th, .ref aX, .int (nI n), .int (nI (tke x n (tke x n p))), .int (nI (tko x n (tke x n p))), .int (nI (skp x n (tke x n p))), .int va1_2, .int (-1), .ref aT, .ref aD, .ref aS, .ref aU, .int um, .ref aK, .ref aI, .ref aL, .ref aE, .ref aF, .int sm, .ref aP, .ref aW, .int sn, .ref aB, .ref aM])), (aX, .inl (cyI, 100, .inl (nA x))), (aD, .inl (cyI, 42, .inl (nA (uN d (3 + (d 1)) kd))))] [1, 2, 0] rfl rfl (by decide) ?_
    refine j_top (nI (tkv x n p - 48)) (hv.1 (okN_t hb40).1) ?_
    refine j_nast (pc' := 44) C [(a0, .inr (8, [.int th, .ref aX, .int (nI n), .int (nI (tke x n (tke x n p))), .int (nI (tko x n (tke x n p))), .int (nI (skp x n (tke x n p))), .int va1_2, .int (-1), .ref aT, .ref aD, .ref aS, .ref aU, .int um, .ref aK, .ref aI, .ref aL, .ref aE, .ref aF, .int sm, .ref aP, .ref aW, .int sn, .ref aB, .ref aM])), (aX, .inl (cyI, 100, .inl (nA x))), (aD, .inl (cyI, 42, .inl (nA (uN (uN d (3 + (d 1)) kd) (12 + (d 1)) (tkv x n p - 48)))))] 2 rfl (by omega) (by decide) dX8_readsContact_43 rfl rfl ?_
    refine j_aload_n (pc' := 45) C dX8_readsContact_44 rfl 2 rfl ?_
    refine j_get (v := .ref aD) (pc' := 48) C KX8 0 9 rfl (by decide) fl_X8_16 rfl rfl dX8_readsContact_45 rfl ?_
    refine j_bipush (v := (nI 21)) (pc' := 50) C dX8_readsContact_48 rfl (by decide +kernel) ?_
    refine j_iload_n (pc' := 51) C dX8_readsContact_50 rfl 1 rfl ?_
    refine j_iadd (v := (nI (21 + (d 1)))) (pc' := 52) C dX8_readsContact_51 rfl (nI_add 21 (d 1)) ?_
    refine j_aload_n (pc' := 53) C dX8_readsContact_52 rfl 2 rfl ?_
    refine j_aload_n (pc' := 54) C dX8_readsContact_53 rfl 2 rfl ?_
    refine j_iconst (v := (nI 0)) (pc' := 55) C dX8_readsContact_54 rfl (by decide +kernel) ?_
    refine j_iload_n (pc' := 56) C dX8_readsContact_55 rfl 0 rfl ?_
    refine j_cVi (As := [.int (nI 0), .int (nI ((d 0) - 1))]) (wr := [(aX, .inl (cyI, 100, .inl (nA x))), (aD, .inl (cyI, 42, .inl (nA (uN (uN d (3 + (d 1)) kd) (12 + (d 1)) (tkv x n p - 48)))))]) (pc' := 59) C (c_X8_isNumber (a0 := a0) (th := th) (aX := aX) (ty := (nI n)) (sp := (nI (tke x n (tke x n p)))) (pl := (nI (skp x n (tke x n p)))) (va := va1_2) (fa := (-1)) (aT := aT) (aD := aD) (aS := aS) (aU := aU) (um := um) (aK := aK) (aI := aI) (aL := aL) (aE := aE) (aF := aF) (sm := sm) (aP := aP) (aW := aW) (sn := sn) (aB := aB) (aM := aM) (x := x) (n := n) (p := (tke x n p)) (lo := 0) (hi := (d 0) - 1) (hv := hF40) (hlo := by omega) (hhi := by omega)) Y_X8_isNumber (ml_X8_100) [0] [1, 2] rfl rfl rfl rfl (by decide) rfl rfl rfl dX8_readsContact_56 rfl rfl rfl (Nat.le_of_ble_eq_true rfl) ⟨Nat.le_of_ble_eq_true rfl, Nat.le_of_ble_eq_true rfl⟩ ⟨Nat.le_of_ble_eq_true rfl, Nat.le_of_ble_eq_true rfl⟩ ⟨rfl, rfl⟩ (fun r3 w1 hQ => ?_)
    obtain ⟨rfl, rfl⟩ := hQ
    refine j_perm [(a0, .inr (8, [.int th, .ref aX, .int (nI n), .int (nI (tke x n (tke x n p))), .int (nI (tko x n (tke x n p))), .int (nI (skp x n (tke x n p))), .int va1_2, .int (-1), .ref aT, .ref aD, .ref aS, .ref aU, .int um, .ref aK, .ref aI, .ref aL, .ref aE, .ref aF, .int sm, .ref aP, .ref aW, .int sn, .ref aB, .ref aM])), (aX, .inl (cyI, 100, .inl (nA x))), (aD, .inl (cyI, 42, .inl (nA (uN (uN d (3 + (d 1)) kd) (12 + (d 1)) (tkv x n p - 48)))))] [2, 0, 1] rfl rfl (by decide) ?_
    refine j_b_eq (pc' := 62) C 82 dX8_readsContact_59 (by decide) rfl (fun c59 => ?_) (fun c59 => ?_)
    · refine j_iconst (v := (nI 0)) (pc' := 83) C dX8_readsContact_82 rfl (by decide +kernel) ?_
      refine j_cVi (As := [.int (nI 0)]) (wr := [(aD, .inl (cyI, 42, .inl (nA (uN (uN d (3 + (d 1)) kd) (12 + (d 1)) (tkv x n p - 48)))))]) (pc' := 86) C (c_X8_takes_n (a0 := a0) (th := th) (aX := aX) (va := va1_2) (aT := aT) (aD := aD) (aS := aS) (aU := aU) (um := um) (aK := aK) (aI := aI) (aL := aL) (aE := aE) (aF := aF) (sm := sm) (aP := aP) (aW := aW) (sn := sn) (aB := aB) (aM := aM) (x := x) (n := n) (p := (tke x n p)) ) Y_X8_takes (ml_X8_104) [0, 1] [2] rfl rfl rfl rfl (by decide) rfl rfl rfl dX8_readsContact_83 rfl rfl rfl (Nat.le_of_ble_eq_true rfl) ⟨Nat.le_of_ble_eq_true rfl, Nat.le_of_ble_eq_true rfl⟩ ⟨Nat.le_of_ble_eq_true rfl, Nat.le_of_ble_eq_true rfl⟩ ⟨rfl, rfl⟩ (fun r4 w1 hQ => ?_)
      obtain ⟨rfl, rfl⟩ := hQ
      refine j_perm [(a0, .inr (8, [.int th, .ref aX, .int (nI n), .int (nI (tke x n (tke x n p))), .int (nI (tko x n (tke x n p))), .int (nI (skp x n (tke x n p))), .int va1_2, .int (nI (skp x n (tke x n p))), .ref aT, .ref aD, .ref aS, .ref aU, .int um, .ref aK, .ref aI, .ref aL, .ref aE, .ref aF, .int sm, .ref aP, .ref aW, .int sn, .ref aB, .ref aM])), (aX, .inl (cyI, 100, .inl (nA x))), (aD, .inl (cyI, 42, .inl (nA (uN (uN d (3 + (d 1)) kd) (12 + (d 1)) (tkv x n p - 48)))))] [1, 2, 0] rfl rfl (by decide) ?_
      refine j_nast (pc' := 87) C [(a0, .inr (8, [.int th, .ref aX, .int (nI n), .int (nI (tke x n (tke x n p))), .int (nI (tko x n (tke x n p))), .int (nI (skp x n (tke x n p))), .int va1_2, .int (nI (skp x n (tke x n p))), .ref aT, .ref aD, .ref aS, .ref aU, .int um, .ref aK, .ref aI, .ref aL, .ref aE, .ref aF, .int sm, .ref aP, .ref aW, .int sn, .ref aB, .ref aM])), (aX, .inl (cyI, 100, .inl (nA x))), (aD, .inl (cyI, 42, .inl (nA (uN (uN (uN d (3 + (d 1)) kd) (12 + (d 1)) (tkv x n p - 48)) (21 + (d 1)) 0))))] 2 rfl (by omega) (by decide) dX8_readsContact_86 rfl rfl ?_
      refine j_aload_n (pc' := 88) C dX8_readsContact_87 rfl 2 rfl ?_
      refine j_get (v := .ref aD) (pc' := 91) C KX8 0 9 rfl (by decide) fl_X8_16 rfl rfl dX8_readsContact_88 rfl ?_
      refine j_bipush (v := (nI 30)) (pc' := 93) C dX8_readsContact_91 rfl (by decide +kernel) ?_
      refine j_iload_n (pc' := 94) C dX8_readsContact_93 rfl 1 rfl ?_
      refine j_iadd (v := (nI (30 + (d 1)))) (pc' := 95) C dX8_readsContact_94 rfl (nI_add 30 (d 1)) ?_
      refine j_iload_n (pc' := 96) C dX8_readsContact_95 rfl 3 rfl ?_
      refine j_iconst (v := (nI 2)) (pc' := 97) C dX8_readsContact_96 rfl (by decide +kernel) ?_
      refine j_nc_ge (pc' := 100) C 113 dX8_readsContact_97 (by decide) rfl (by omega) (by omega) (fun c97 => ?_) (fun c97 => ?_)
      · refine j_bipush (v := (-9)) (pc' := 115) C dX8_readsContact_113 rfl (by decide +kernel) ?_
        refine j_top (nI 4294967287) (by decide +kernel) ?_
        refine j_nast (pc' := 116) C [(a0, .inr (8, [.int th, .ref aX, .int (nI n), .int (nI (tke x n (tke x n p))), .int (nI (tko x n (tke x n p))), .int (nI (skp x n (tke x n p))), .int va1_2, .int (nI (skp x n (tke x n p))), .ref aT, .ref aD, .ref aS, .ref aU, .int um, .ref aK, .ref aI, .ref aL, .ref aE, .ref aF, .int sm, .ref aP, .ref aW, .int sn, .ref aB, .ref aM])), (aX, .inl (cyI, 100, .inl (nA x))), (aD, .inl (cyI, 42, .inl (nA (uN (uN (uN (uN d (3 + (d 1)) kd) (12 + (d 1)) (tkv x n p - 48)) (21 + (d 1)) 0) (30 + (d 1)) 4294967287))))] 2 rfl (by omega) (by decide) dX8_readsContact_115 rfl rfl ?_
        refine j_aload_n (pc' := 117) C dX8_readsContact_116 rfl 2 rfl ?_
        refine j_get (v := .ref aD) (pc' := 120) C KX8 0 9 rfl (by decide) fl_X8_16 rfl rfl dX8_readsContact_117 rfl ?_
        refine j_iconst (v := (nI 1)) (pc' := 121) C dX8_readsContact_120 rfl (by decide +kernel) ?_
        refine j_dup2 (pc' := 122) C dX8_readsContact_121 rfl rfl rfl ?_
        refine j_nald (pc' := 123) C 2 rfl (by omega) (by decide) dX8_readsContact_122 rfl ?_
        refine j_iconst (v := (nI 1)) (pc' := 124) C dX8_readsContact_123 rfl (by decide +kernel) ?_
        refine j_iadd (v := (nI (((uN (uN (uN (uN d (3 + (d 1)) kd) (12 + (d 1)) (tkv x n p - 48)) (21 + (d 1)) 0) (30 + (d 1)) 4294967287) 1) + 1))) (pc' := 125) C dX8_readsContact_124 rfl (nI_add ((uN (uN (uN (uN d (3 + (d 1)) kd) (12 + (d 1)) (tkv x n p - 48)) (21 + (d 1)) 0) (30 + (d 1)) 4294967287) 1) 1) ?_
        refine j_nast (pc' := 126) C [(a0, .inr (8, [.int th, .ref aX, .int (nI n), .int (nI (tke x n (tke x n p))), .int (nI (tko x n (tke x n p))), .int (nI (skp x n (tke x n p))), .int va1_2, .int (nI (skp x n (tke x n p))), .ref aT, .ref aD, .ref aS, .ref aU, .int um, .ref aK, .ref aI, .ref aL, .ref aE, .ref aF, .int sm, .ref aP, .ref aW, .int sn, .ref aB, .ref aM])), (aX, .inl (cyI, 100, .inl (nA x))), (aD, .inl (cyI, 42, .inl (nA (uN (uN (uN (uN (uN d (3 + (d 1)) kd) (12 + (d 1)) (tkv x n p - 48)) (21 + (d 1)) 0) (30 + (d 1)) 4294967287) 1 (((uN (uN (uN (uN d (3 + (d 1)) kd) (12 + (d 1)) (tkv x n p - 48)) (21 + (d 1)) 0) (30 + (d 1)) 4294967287) 1) + 1)))))] 2 rfl (by omega) (by decide) dX8_readsContact_125 rfl rfl ?_
        exact j_vret C hr hk hA dX8_readsContact_126 (⟨_, _, _, _, _, _, rfl, (fun k hk9 => by simp only [uN_far (show 3 + d 1 < 42 by omega) hk9, uN_far (show 12 + d 1 < 42 by omega) hk9, uN_far (show 21 + d 1 < 42 by omega) hk9, uN_far (show 30 + d 1 < 42 by omega) hk9, uN_far (show 1 < 42 by omega) hk9]), Or.inl ⟨_, by unfold rdC; rw [if_neg (by rw [hb40]; decide), if_pos (by rw [c59]; rfl)], rfl, (skp_ge x (by omega)).2⟩⟩)
      · refine j_aload_n (pc' := 101) C dX8_readsContact_100 rfl 2 rfl ?_
        refine j_aload_n (pc' := 102) C dX8_readsContact_101 rfl 2 rfl ?_
        refine j_iconst (v := (nI 0)) (pc' := 103) C dX8_readsContact_102 rfl (by decide +kernel) ?_
        refine j_iconst (v := (nI 3)) (pc' := 104) C dX8_readsContact_103 rfl (by decide +kernel) ?_
        refine j_cVi (As := [.int (nI 0), .int (nI 3)]) (wr := [(aX, .inl (cyI, 100, .inl (nA x))), (aD, .inl (cyI, 42, .inl (nA (uN (uN (uN d (3 + (d 1)) kd) (12 + (d 1)) (tkv x n p - 48)) (21 + (d 1)) 0))))]) (pc' := 107) C (c_X8_isNumber (a0 := a0) (th := th) (aX := aX) (ty := (nI n)) (sp := (nI (tke x n (tke x n p)))) (pl := (nI (skp x n (tke x n p)))) (va := va1_2) (fa := (nI (skp x n (tke x n p)))) (aT := aT) (aD := aD) (aS := aS) (aU := aU) (um := um) (aK := aK) (aI := aI) (aL := aL) (aE := aE) (aF := aF) (sm := sm) (aP := aP) (aW := aW) (sn := sn) (aB := aB) (aM := aM) (x := x) (n := n) (p := (tke x n p)) (lo := 0) (hi := 3) (hv := hF40) (hlo := by omega) (hhi := by omega)) Y_X8_isNumber (ml_X8_100) [0] [1, 2] rfl rfl rfl rfl (by decide) rfl rfl rfl dX8_readsContact_104 rfl rfl rfl (Nat.le_of_ble_eq_true rfl) ⟨Nat.le_of_ble_eq_true rfl, Nat.le_of_ble_eq_true rfl⟩ ⟨Nat.le_of_ble_eq_true rfl, Nat.le_of_ble_eq_true rfl⟩ ⟨rfl, rfl⟩ (fun r5 w1 hQ => ?_)
        obtain ⟨rfl, rfl⟩ := hQ
        refine j_perm [(a0, .inr (8, [.int th, .ref aX, .int (nI n), .int (nI (tke x n (tke x n p))), .int (nI (tko x n (tke x n p))), .int (nI (skp x n (tke x n p))), .int va1_2, .int (nI (skp x n (tke x n p))), .ref aT, .ref aD, .ref aS, .ref aU, .int um, .ref aK, .ref aI, .ref aL, .ref aE, .ref aF, .int sm, .ref aP, .ref aW, .int sn, .ref aB, .ref aM])), (aX, .inl (cyI, 100, .inl (nA x))), (aD, .inl (cyI, 42, .inl (nA (uN (uN (uN d (3 + (d 1)) kd) (12 + (d 1)) (tkv x n p - 48)) (21 + (d 1)) 0))))] [2, 0, 1] rfl rfl (by decide) ?_
        refine j_cVi (As := [.int (bI (okN x n (tke x n p) 0 3))]) (wr := [(aX, .inl (cyI, 100, .inl (nA x))), (aD, .inl (cyI, 42, .inl (nA (uN (uN (uN d (3 + (d 1)) kd) (12 + (d 1)) (tkv x n p - 48)) (21 + (d 1)) 0))))]) (pc' := 110) C (c_X8_takes_f (a0 := a0) (th := th) (aX := aX) (ty := (nI n)) (sp := (nI (tke x n (tke x n p)))) (tk := (nI (tko x n (tke x n p)))) (pl := (nI (skp x n (tke x n p)))) (va := va1_2) (aT := aT) (aD := aD) (aS := aS) (aU := aU) (um := um) (aK := aK) (aI := aI) (aL := aL) (aE := aE) (aF := aF) (sm := sm) (aP := aP) (aW := aW) (sn := sn) (aB := aB) (aM := aM) (f := skp x n (tke x n p)) (b := okN x n (tke x n p) 0 3) (hf := by have := (skp_ge x (n := n) (p := p) hp).2; have := (skp_ge x (n := n) (p := tke x n p) (by omega)).2; omega)) Y_X8_takes (ml_X8_104) [0] [1, 2] rfl rfl rfl rfl (by decide) rfl rfl rfl dX8_readsContact_107 rfl rfl rfl (Nat.le_of_ble_eq_true rfl) ⟨Nat.le_of_ble_eq_true rfl, Nat.le_of_ble_eq_true rfl⟩ ⟨Nat.le_of_ble_eq_true rfl, Nat.le_of_ble_eq_true rfl⟩ ⟨rfl, rfl⟩ (fun r6 w1 hQ => ?_)
        obtain ⟨rfl, rfl⟩ := hQ
        refine j_perm [(a0, .inr (8, [.int th, .ref aX, .int (nI n), .int (nI (tke x n (tke x n p))), .int (nI (tko x n (tke x n p))), .int (nI (skp x n (tke x n p))), .int va1_2, .int (nI (skp x n (tke x n p))), .ref aT, .ref aD, .ref aS, .ref aU, .int um, .ref aK, .ref aI, .ref aL, .ref aE, .ref aF, .int sm, .ref aP, .ref aW, .int sn, .ref aB, .ref aM])), (aX, .inl (cyI, 100, .inl (nA x))), (aD, .inl (cyI, 42, .inl (nA (uN (uN (uN d (3 + (d 1)) kd) (12 + (d 1)) (tkv x n p - 48)) (21 + (d 1)) 0))))] [2, 0, 1] rfl rfl (by decide) ?_
        refine j_goto C 115 dX8_readsContact_110 (by decide) ?_
        refine j_nast (pc' := 116) C [(a0, .inr (8, [.int th, .ref aX, .int (nI n), .int (nI (tke x n (tke x n p))), .int (nI (tko x n (tke x n p))), .int (nI (skp x n (tke x n p))), .int va1_2, .int (nI (skp x n (tke x n p))), .ref aT, .ref aD, .ref aS, .ref aU, .int um, .ref aK, .ref aI, .ref aL, .ref aE, .ref aF, .int sm, .ref aP, .ref aW, .int sn, .ref aB, .ref aM])), (aX, .inl (cyI, 100, .inl (nA x))), (aD, .inl (cyI, 42, .inl (nA (uN (uN (uN (uN d (3 + (d 1)) kd) (12 + (d 1)) (tkv x n p - 48)) (21 + (d 1)) 0) (30 + (d 1)) 0))))] 2 rfl (by omega) (by decide) dX8_readsContact_115 rfl rfl ?_
        refine j_aload_n (pc' := 117) C dX8_readsContact_116 rfl 2 rfl ?_
        refine j_get (v := .ref aD) (pc' := 120) C KX8 0 9 rfl (by decide) fl_X8_16 rfl rfl dX8_readsContact_117 rfl ?_
        refine j_iconst (v := (nI 1)) (pc' := 121) C dX8_readsContact_120 rfl (by decide +kernel) ?_
        refine j_dup2 (pc' := 122) C dX8_readsContact_121 rfl rfl rfl ?_
        refine j_nald (pc' := 123) C 2 rfl (by omega) (by decide) dX8_readsContact_122 rfl ?_
        refine j_iconst (v := (nI 1)) (pc' := 124) C dX8_readsContact_123 rfl (by decide +kernel) ?_
        refine j_iadd (v := (nI (((uN (uN (uN (uN d (3 + (d 1)) kd) (12 + (d 1)) (tkv x n p - 48)) (21 + (d 1)) 0) (30 + (d 1)) 0) 1) + 1))) (pc' := 125) C dX8_readsContact_124 rfl (nI_add ((uN (uN (uN (uN d (3 + (d 1)) kd) (12 + (d 1)) (tkv x n p - 48)) (21 + (d 1)) 0) (30 + (d 1)) 0) 1) 1) ?_
        refine j_nast (pc' := 126) C [(a0, .inr (8, [.int th, .ref aX, .int (nI n), .int (nI (tke x n (tke x n p))), .int (nI (tko x n (tke x n p))), .int (nI (skp x n (tke x n p))), .int va1_2, .int (nI (skp x n (tke x n p))), .ref aT, .ref aD, .ref aS, .ref aU, .int um, .ref aK, .ref aI, .ref aL, .ref aE, .ref aF, .int sm, .ref aP, .ref aW, .int sn, .ref aB, .ref aM])), (aX, .inl (cyI, 100, .inl (nA x))), (aD, .inl (cyI, 42, .inl (nA (uN (uN (uN (uN (uN d (3 + (d 1)) kd) (12 + (d 1)) (tkv x n p - 48)) (21 + (d 1)) 0) (30 + (d 1)) 0) 1 (((uN (uN (uN (uN d (3 + (d 1)) kd) (12 + (d 1)) (tkv x n p - 48)) (21 + (d 1)) 0) (30 + (d 1)) 0) 1) + 1)))))] 2 rfl (by omega) (by decide) dX8_readsContact_125 rfl rfl ?_
        exact j_vret C hr hk hA dX8_readsContact_126 (⟨_, _, _, _, _, _, rfl, (fun k hk9 => by simp only [uN_far (show 3 + d 1 < 42 by omega) hk9, uN_far (show 12 + d 1 < 42 by omega) hk9, uN_far (show 21 + d 1 < 42 by omega) hk9, uN_far (show 30 + d 1 < 42 by omega) hk9, uN_far (show 1 < 42 by omega) hk9]), Or.inl ⟨_, by unfold rdC; rw [if_neg (by rw [hb40]; decide), if_pos (by rw [c59]; rfl)], rfl, (skp_ge x (by omega)).2⟩⟩)
    · have hw59 := okN_t c59
      have hv59 := hF40.1 hw59.1
      have hw40 := okN_t hb40
      have hne : ¬ tkv x n (tke x n p) - 48 = uN (uN d (3 + d 1) kd) (12 + d 1) (tkv x n p - 48) (12 + d 1) → tkv x n (tke x n p) ≠ tkv x n p := fun q9 q8 => q9 (by rw [uN_s, q8])
      have heq : tkv x n (tke x n p) - 48 = uN (uN d (3 + d 1) kd) (12 + d 1) (tkv x n p - 48) (12 + d 1) → ¬ tkv x n (tke x n p) ≠ tkv x n p := fun q9 q8 => q8 (by rw [uN_s] at q9; omega)
      refine j_aload_n (pc' := 63) C dX8_readsContact_62 rfl 2 rfl ?_
      refine j_get (v := .int va1_2) (pc' := 66) C KX8 0 6 rfl (by decide) fl_X8_83 rfl rfl dX8_readsContact_63 rfl ?_
      refine j_top (nI (tkv x n (tke x n p) - 48)) (hv59) ?_
      refine j_aload_n (pc' := 67) C dX8_readsContact_66 rfl 2 rfl ?_
      refine j_get (v := .ref aD) (pc' := 70) C KX8 0 9 rfl (by decide) fl_X8_16 rfl rfl dX8_readsContact_67 rfl ?_
      refine j_bipush (v := (nI 12)) (pc' := 72) C dX8_readsContact_70 rfl (by decide +kernel) ?_
      refine j_iload_n (pc' := 73) C dX8_readsContact_72 rfl 1 rfl ?_
      refine j_iadd (v := (nI (12 + (d 1)))) (pc' := 74) C dX8_readsContact_73 rfl (nI_add 12 (d 1)) ?_
      refine j_nald (pc' := 75) C 2 rfl (by omega) (by decide) dX8_readsContact_74 rfl ?_
      refine j_nc_eq (pc' := 78) C 82 dX8_readsContact_75 (by decide) rfl (by omega) (by rw [uN_s]; omega) (fun c75 => ?_) (fun c75 => ?_)
      · refine j_iconst (v := (nI 0)) (pc' := 83) C dX8_readsContact_82 rfl (by decide +kernel) ?_
        refine j_cVi (As := [.int (nI 0)]) (wr := [(aD, .inl (cyI, 42, .inl (nA (uN (uN d (3 + (d 1)) kd) (12 + (d 1)) (tkv x n p - 48)))))]) (pc' := 86) C (c_X8_takes_n (a0 := a0) (th := th) (aX := aX) (va := va1_2) (aT := aT) (aD := aD) (aS := aS) (aU := aU) (um := um) (aK := aK) (aI := aI) (aL := aL) (aE := aE) (aF := aF) (sm := sm) (aP := aP) (aW := aW) (sn := sn) (aB := aB) (aM := aM) (x := x) (n := n) (p := (tke x n p)) ) Y_X8_takes (ml_X8_104) [0, 1] [2] rfl rfl rfl rfl (by decide) rfl rfl rfl dX8_readsContact_83 rfl rfl rfl (Nat.le_of_ble_eq_true rfl) ⟨Nat.le_of_ble_eq_true rfl, Nat.le_of_ble_eq_true rfl⟩ ⟨Nat.le_of_ble_eq_true rfl, Nat.le_of_ble_eq_true rfl⟩ ⟨rfl, rfl⟩ (fun r7 w1 hQ => ?_)
        obtain ⟨rfl, rfl⟩ := hQ
        refine j_perm [(a0, .inr (8, [.int th, .ref aX, .int (nI n), .int (nI (tke x n (tke x n p))), .int (nI (tko x n (tke x n p))), .int (nI (skp x n (tke x n p))), .int va1_2, .int (nI (skp x n (tke x n p))), .ref aT, .ref aD, .ref aS, .ref aU, .int um, .ref aK, .ref aI, .ref aL, .ref aE, .ref aF, .int sm, .ref aP, .ref aW, .int sn, .ref aB, .ref aM])), (aX, .inl (cyI, 100, .inl (nA x))), (aD, .inl (cyI, 42, .inl (nA (uN (uN d (3 + (d 1)) kd) (12 + (d 1)) (tkv x n p - 48)))))] [1, 2, 0] rfl rfl (by decide) ?_
        refine j_nast (pc' := 87) C [(a0, .inr (8, [.int th, .ref aX, .int (nI n), .int (nI (tke x n (tke x n p))), .int (nI (tko x n (tke x n p))), .int (nI (skp x n (tke x n p))), .int va1_2, .int (nI (skp x n (tke x n p))), .ref aT, .ref aD, .ref aS, .ref aU, .int um, .ref aK, .ref aI, .ref aL, .ref aE, .ref aF, .int sm, .ref aP, .ref aW, .int sn, .ref aB, .ref aM])), (aX, .inl (cyI, 100, .inl (nA x))), (aD, .inl (cyI, 42, .inl (nA (uN (uN (uN d (3 + (d 1)) kd) (12 + (d 1)) (tkv x n p - 48)) (21 + (d 1)) 0))))] 2 rfl (by omega) (by decide) dX8_readsContact_86 rfl rfl ?_
        refine j_aload_n (pc' := 88) C dX8_readsContact_87 rfl 2 rfl ?_
        refine j_get (v := .ref aD) (pc' := 91) C KX8 0 9 rfl (by decide) fl_X8_16 rfl rfl dX8_readsContact_88 rfl ?_
        refine j_bipush (v := (nI 30)) (pc' := 93) C dX8_readsContact_91 rfl (by decide +kernel) ?_
        refine j_iload_n (pc' := 94) C dX8_readsContact_93 rfl 1 rfl ?_
        refine j_iadd (v := (nI (30 + (d 1)))) (pc' := 95) C dX8_readsContact_94 rfl (nI_add 30 (d 1)) ?_
        refine j_iload_n (pc' := 96) C dX8_readsContact_95 rfl 3 rfl ?_
        refine j_iconst (v := (nI 2)) (pc' := 97) C dX8_readsContact_96 rfl (by decide +kernel) ?_
        refine j_nc_ge (pc' := 100) C 113 dX8_readsContact_97 (by decide) rfl (by omega) (by omega) (fun c97 => ?_) (fun c97 => ?_)
        · refine j_bipush (v := (-9)) (pc' := 115) C dX8_readsContact_113 rfl (by decide +kernel) ?_
          refine j_top (nI 4294967287) (by decide +kernel) ?_
          refine j_nast (pc' := 116) C [(a0, .inr (8, [.int th, .ref aX, .int (nI n), .int (nI (tke x n (tke x n p))), .int (nI (tko x n (tke x n p))), .int (nI (skp x n (tke x n p))), .int va1_2, .int (nI (skp x n (tke x n p))), .ref aT, .ref aD, .ref aS, .ref aU, .int um, .ref aK, .ref aI, .ref aL, .ref aE, .ref aF, .int sm, .ref aP, .ref aW, .int sn, .ref aB, .ref aM])), (aX, .inl (cyI, 100, .inl (nA x))), (aD, .inl (cyI, 42, .inl (nA (uN (uN (uN (uN d (3 + (d 1)) kd) (12 + (d 1)) (tkv x n p - 48)) (21 + (d 1)) 0) (30 + (d 1)) 4294967287))))] 2 rfl (by omega) (by decide) dX8_readsContact_115 rfl rfl ?_
          refine j_aload_n (pc' := 117) C dX8_readsContact_116 rfl 2 rfl ?_
          refine j_get (v := .ref aD) (pc' := 120) C KX8 0 9 rfl (by decide) fl_X8_16 rfl rfl dX8_readsContact_117 rfl ?_
          refine j_iconst (v := (nI 1)) (pc' := 121) C dX8_readsContact_120 rfl (by decide +kernel) ?_
          refine j_dup2 (pc' := 122) C dX8_readsContact_121 rfl rfl rfl ?_
          refine j_nald (pc' := 123) C 2 rfl (by omega) (by decide) dX8_readsContact_122 rfl ?_
          refine j_iconst (v := (nI 1)) (pc' := 124) C dX8_readsContact_123 rfl (by decide +kernel) ?_
          refine j_iadd (v := (nI (((uN (uN (uN (uN d (3 + (d 1)) kd) (12 + (d 1)) (tkv x n p - 48)) (21 + (d 1)) 0) (30 + (d 1)) 4294967287) 1) + 1))) (pc' := 125) C dX8_readsContact_124 rfl (nI_add ((uN (uN (uN (uN d (3 + (d 1)) kd) (12 + (d 1)) (tkv x n p - 48)) (21 + (d 1)) 0) (30 + (d 1)) 4294967287) 1) 1) ?_
          refine j_nast (pc' := 126) C [(a0, .inr (8, [.int th, .ref aX, .int (nI n), .int (nI (tke x n (tke x n p))), .int (nI (tko x n (tke x n p))), .int (nI (skp x n (tke x n p))), .int va1_2, .int (nI (skp x n (tke x n p))), .ref aT, .ref aD, .ref aS, .ref aU, .int um, .ref aK, .ref aI, .ref aL, .ref aE, .ref aF, .int sm, .ref aP, .ref aW, .int sn, .ref aB, .ref aM])), (aX, .inl (cyI, 100, .inl (nA x))), (aD, .inl (cyI, 42, .inl (nA (uN (uN (uN (uN (uN d (3 + (d 1)) kd) (12 + (d 1)) (tkv x n p - 48)) (21 + (d 1)) 0) (30 + (d 1)) 4294967287) 1 (((uN (uN (uN (uN d (3 + (d 1)) kd) (12 + (d 1)) (tkv x n p - 48)) (21 + (d 1)) 0) (30 + (d 1)) 4294967287) 1) + 1)))))] 2 rfl (by omega) (by decide) dX8_readsContact_125 rfl rfl ?_
          exact j_vret C hr hk hA dX8_readsContact_126 (⟨_, _, _, _, _, _, rfl, (fun k hk9 => by simp only [uN_far (show 3 + d 1 < 42 by omega) hk9, uN_far (show 12 + d 1 < 42 by omega) hk9, uN_far (show 21 + d 1 < 42 by omega) hk9, uN_far (show 30 + d 1 < 42 by omega) hk9, uN_far (show 1 < 42 by omega) hk9]), Or.inl ⟨_, by unfold rdC; rw [if_neg (by rw [hb40]; decide), if_pos (by rw [c59, decide_eq_false (heq c75)]; rfl)], rfl, (skp_ge x (by omega)).2⟩⟩)
        · refine j_aload_n (pc' := 101) C dX8_readsContact_100 rfl 2 rfl ?_
          refine j_aload_n (pc' := 102) C dX8_readsContact_101 rfl 2 rfl ?_
          refine j_iconst (v := (nI 0)) (pc' := 103) C dX8_readsContact_102 rfl (by decide +kernel) ?_
          refine j_iconst (v := (nI 3)) (pc' := 104) C dX8_readsContact_103 rfl (by decide +kernel) ?_
          refine j_cVi (As := [.int (nI 0), .int (nI 3)]) (wr := [(aX, .inl (cyI, 100, .inl (nA x))), (aD, .inl (cyI, 42, .inl (nA (uN (uN (uN d (3 + (d 1)) kd) (12 + (d 1)) (tkv x n p - 48)) (21 + (d 1)) 0))))]) (pc' := 107) C (c_X8_isNumber (a0 := a0) (th := th) (aX := aX) (ty := (nI n)) (sp := (nI (tke x n (tke x n p)))) (pl := (nI (skp x n (tke x n p)))) (va := va1_2) (fa := (nI (skp x n (tke x n p)))) (aT := aT) (aD := aD) (aS := aS) (aU := aU) (um := um) (aK := aK) (aI := aI) (aL := aL) (aE := aE) (aF := aF) (sm := sm) (aP := aP) (aW := aW) (sn := sn) (aB := aB) (aM := aM) (x := x) (n := n) (p := (tke x n p)) (lo := 0) (hi := 3) (hv := hF40) (hlo := by omega) (hhi := by omega)) Y_X8_isNumber (ml_X8_100) [0] [1, 2] rfl rfl rfl rfl (by decide) rfl rfl rfl dX8_readsContact_104 rfl rfl rfl (Nat.le_of_ble_eq_true rfl) ⟨Nat.le_of_ble_eq_true rfl, Nat.le_of_ble_eq_true rfl⟩ ⟨Nat.le_of_ble_eq_true rfl, Nat.le_of_ble_eq_true rfl⟩ ⟨rfl, rfl⟩ (fun r8 w1 hQ => ?_)
          obtain ⟨rfl, rfl⟩ := hQ
          refine j_perm [(a0, .inr (8, [.int th, .ref aX, .int (nI n), .int (nI (tke x n (tke x n p))), .int (nI (tko x n (tke x n p))), .int (nI (skp x n (tke x n p))), .int va1_2, .int (nI (skp x n (tke x n p))), .ref aT, .ref aD, .ref aS, .ref aU, .int um, .ref aK, .ref aI, .ref aL, .ref aE, .ref aF, .int sm, .ref aP, .ref aW, .int sn, .ref aB, .ref aM])), (aX, .inl (cyI, 100, .inl (nA x))), (aD, .inl (cyI, 42, .inl (nA (uN (uN (uN d (3 + (d 1)) kd) (12 + (d 1)) (tkv x n p - 48)) (21 + (d 1)) 0))))] [2, 0, 1] rfl rfl (by decide) ?_
          refine j_cVi (As := [.int (bI (okN x n (tke x n p) 0 3))]) (wr := [(aX, .inl (cyI, 100, .inl (nA x))), (aD, .inl (cyI, 42, .inl (nA (uN (uN (uN d (3 + (d 1)) kd) (12 + (d 1)) (tkv x n p - 48)) (21 + (d 1)) 0))))]) (pc' := 110) C (c_X8_takes_f (a0 := a0) (th := th) (aX := aX) (ty := (nI n)) (sp := (nI (tke x n (tke x n p)))) (tk := (nI (tko x n (tke x n p)))) (pl := (nI (skp x n (tke x n p)))) (va := va1_2) (aT := aT) (aD := aD) (aS := aS) (aU := aU) (um := um) (aK := aK) (aI := aI) (aL := aL) (aE := aE) (aF := aF) (sm := sm) (aP := aP) (aW := aW) (sn := sn) (aB := aB) (aM := aM) (f := skp x n (tke x n p)) (b := okN x n (tke x n p) 0 3) (hf := by have := (skp_ge x (n := n) (p := p) hp).2; have := (skp_ge x (n := n) (p := tke x n p) (by omega)).2; omega)) Y_X8_takes (ml_X8_104) [0] [1, 2] rfl rfl rfl rfl (by decide) rfl rfl rfl dX8_readsContact_107 rfl rfl rfl (Nat.le_of_ble_eq_true rfl) ⟨Nat.le_of_ble_eq_true rfl, Nat.le_of_ble_eq_true rfl⟩ ⟨Nat.le_of_ble_eq_true rfl, Nat.le_of_ble_eq_true rfl⟩ ⟨rfl, rfl⟩ (fun r9 w1 hQ => ?_)
          obtain ⟨rfl, rfl⟩ := hQ
          refine j_perm [(a0, .inr (8, [.int th, .ref aX, .int (nI n), .int (nI (tke x n (tke x n p))), .int (nI (tko x n (tke x n p))), .int (nI (skp x n (tke x n p))), .int va1_2, .int (nI (skp x n (tke x n p))), .ref aT, .ref aD, .ref aS, .ref aU, .int um, .ref aK, .ref aI, .ref aL, .ref aE, .ref aF, .int sm, .ref aP, .ref aW, .int sn, .ref aB, .ref aM])), (aX, .inl (cyI, 100, .inl (nA x))), (aD, .inl (cyI, 42, .inl (nA (uN (uN (uN d (3 + (d 1)) kd) (12 + (d 1)) (tkv x n p - 48)) (21 + (d 1)) 0))))] [2, 0, 1] rfl rfl (by decide) ?_
          refine j_goto C 115 dX8_readsContact_110 (by decide) ?_
          refine j_nast (pc' := 116) C [(a0, .inr (8, [.int th, .ref aX, .int (nI n), .int (nI (tke x n (tke x n p))), .int (nI (tko x n (tke x n p))), .int (nI (skp x n (tke x n p))), .int va1_2, .int (nI (skp x n (tke x n p))), .ref aT, .ref aD, .ref aS, .ref aU, .int um, .ref aK, .ref aI, .ref aL, .ref aE, .ref aF, .int sm, .ref aP, .ref aW, .int sn, .ref aB, .ref aM])), (aX, .inl (cyI, 100, .inl (nA x))), (aD, .inl (cyI, 42, .inl (nA (uN (uN (uN (uN d (3 + (d 1)) kd) (12 + (d 1)) (tkv x n p - 48)) (21 + (d 1)) 0) (30 + (d 1)) 0))))] 2 rfl (by omega) (by decide) dX8_readsContact_115 rfl rfl ?_
          refine j_aload_n (pc' := 117) C dX8_readsContact_116 rfl 2 rfl ?_
          refine j_get (v := .ref aD) (pc' := 120) C KX8 0 9 rfl (by decide) fl_X8_16 rfl rfl dX8_readsContact_117 rfl ?_
          refine j_iconst (v := (nI 1)) (pc' := 121) C dX8_readsContact_120 rfl (by decide +kernel) ?_
          refine j_dup2 (pc' := 122) C dX8_readsContact_121 rfl rfl rfl ?_
          refine j_nald (pc' := 123) C 2 rfl (by omega) (by decide) dX8_readsContact_122 rfl ?_
          refine j_iconst (v := (nI 1)) (pc' := 124) C dX8_readsContact_123 rfl (by decide +kernel) ?_
          refine j_iadd (v := (nI (((uN (uN (uN (uN d (3 + (d 1)) kd) (12 + (d 1)) (tkv x n p - 48)) (21 + (d 1)) 0) (30 + (d 1)) 0) 1) + 1))) (pc' := 125) C dX8_readsContact_124 rfl (nI_add ((uN (uN (uN (uN d (3 + (d 1)) kd) (12 + (d 1)) (tkv x n p - 48)) (21 + (d 1)) 0) (30 + (d 1)) 0) 1) 1) ?_
          refine j_nast (pc' := 126) C [(a0, .inr (8, [.int th, .ref aX, .int (nI n), .int (nI (tke x n (tke x n p))), .int (nI (tko x n (tke x n p))), .int (nI (skp x n (tke x n p))), .int va1_2, .int (nI (skp x n (tke x n p))), .ref aT, .ref aD, .ref aS, .ref aU, .int um, .ref aK, .ref aI, .ref aL, .ref aE, .ref aF, .int sm, .ref aP, .ref aW, .int sn, .ref aB, .ref aM])), (aX, .inl (cyI, 100, .inl (nA x))), (aD, .inl (cyI, 42, .inl (nA (uN (uN (uN (uN (uN d (3 + (d 1)) kd) (12 + (d 1)) (tkv x n p - 48)) (21 + (d 1)) 0) (30 + (d 1)) 0) 1 (((uN (uN (uN (uN d (3 + (d 1)) kd) (12 + (d 1)) (tkv x n p - 48)) (21 + (d 1)) 0) (30 + (d 1)) 0) 1) + 1)))))] 2 rfl (by omega) (by decide) dX8_readsContact_125 rfl rfl ?_
          exact j_vret C hr hk hA dX8_readsContact_126 (⟨_, _, _, _, _, _, rfl, (fun k hk9 => by simp only [uN_far (show 3 + d 1 < 42 by omega) hk9, uN_far (show 12 + d 1 < 42 by omega) hk9, uN_far (show 21 + d 1 < 42 by omega) hk9, uN_far (show 30 + d 1 < 42 by omega) hk9, uN_far (show 1 < 42 by omega) hk9]), Or.inl ⟨_, by unfold rdC; rw [if_neg (by rw [hb40]; decide), if_pos (by rw [c59, decide_eq_false (heq c75)]; rfl)], rfl, (skp_ge x (by omega)).2⟩⟩)
      · refine j_iconst (v := (nI 1)) (pc' := 79) C dX8_readsContact_78 rfl (by decide +kernel) ?_
        refine j_goto C 83 dX8_readsContact_79 (by decide) ?_
        refine j_cVi (As := [.int (nI 1)]) (wr := [(aD, .inl (cyI, 42, .inl (nA (uN (uN d (3 + (d 1)) kd) (12 + (d 1)) (tkv x n p - 48)))))]) (pc' := 86) C (c_X8_takes_y (a0 := a0) (th := th) (aX := aX) (va := va1_2) (aT := aT) (aD := aD) (aS := aS) (aU := aU) (um := um) (aK := aK) (aI := aI) (aL := aL) (aE := aE) (aF := aF) (sm := sm) (aP := aP) (aW := aW) (sn := sn) (aB := aB) (aM := aM) (x := x) (n := n) (p := (tke x n p)) (hn := by first | assumption | omega) (hx := by first | assumption | omega) (hp := by omega)) Y_X8_takes (ml_X8_104) [0, 1] [2] rfl rfl rfl rfl (by decide) rfl rfl rfl dX8_readsContact_83 rfl rfl rfl (Nat.le_of_ble_eq_true rfl) ⟨Nat.le_of_ble_eq_true rfl, Nat.le_of_ble_eq_true rfl⟩ ⟨Nat.le_of_ble_eq_true rfl, Nat.le_of_ble_eq_true rfl⟩ ⟨rfl, rfl⟩ (fun r10 w1 hQ => ?_)
        obtain ⟨va1_10, rfl, rfl, hF83⟩ := hQ
        refine j_perm [(a0, .inr (8, [.int th, .ref aX, .int (nI n), .int (nI (tke x n (tke x n (tke x n p)))), .int (nI (tko x n (tke x n (tke x n p)))), .int (nI (skp x n (tke x n (tke x n p)))), .int va1_10, .int (-1), .ref aT, .ref aD, .ref aS, .ref aU, .int um, .ref aK, .ref aI, .ref aL, .ref aE, .ref aF, .int sm, .ref aP, .ref aW, .int sn, .ref aB, .ref aM])), (aX, .inl (cyI, 100, .inl (nA x))), (aD, .inl (cyI, 42, .inl (nA (uN (uN d (3 + (d 1)) kd) (12 + (d 1)) (tkv x n p - 48)))))] [1, 2, 0] rfl rfl (by decide) ?_
        refine j_top (nI (tkv x n (tke x n p) - 48)) (hv59) ?_
        refine j_nast (pc' := 87) C [(a0, .inr (8, [.int th, .ref aX, .int (nI n), .int (nI (tke x n (tke x n (tke x n p)))), .int (nI (tko x n (tke x n (tke x n p)))), .int (nI (skp x n (tke x n (tke x n p)))), .int va1_10, .int (-1), .ref aT, .ref aD, .ref aS, .ref aU, .int um, .ref aK, .ref aI, .ref aL, .ref aE, .ref aF, .int sm, .ref aP, .ref aW, .int sn, .ref aB, .ref aM])), (aX, .inl (cyI, 100, .inl (nA x))), (aD, .inl (cyI, 42, .inl (nA (uN (uN (uN d (3 + (d 1)) kd) (12 + (d 1)) (tkv x n p - 48)) (21 + (d 1)) (tkv x n (tke x n p) - 48)))))] 2 rfl (by omega) (by decide) dX8_readsContact_86 rfl rfl ?_
        refine j_aload_n (pc' := 88) C dX8_readsContact_87 rfl 2 rfl ?_
        refine j_get (v := .ref aD) (pc' := 91) C KX8 0 9 rfl (by decide) fl_X8_16 rfl rfl dX8_readsContact_88 rfl ?_
        refine j_bipush (v := (nI 30)) (pc' := 93) C dX8_readsContact_91 rfl (by decide +kernel) ?_
        refine j_iload_n (pc' := 94) C dX8_readsContact_93 rfl 1 rfl ?_
        refine j_iadd (v := (nI (30 + (d 1)))) (pc' := 95) C dX8_readsContact_94 rfl (nI_add 30 (d 1)) ?_
        refine j_iload_n (pc' := 96) C dX8_readsContact_95 rfl 3 rfl ?_
        refine j_iconst (v := (nI 2)) (pc' := 97) C dX8_readsContact_96 rfl (by decide +kernel) ?_
        refine j_nc_ge (pc' := 100) C 113 dX8_readsContact_97 (by decide) rfl (by omega) (by omega) (fun c97 => ?_) (fun c97 => ?_)
        · refine j_bipush (v := (-9)) (pc' := 115) C dX8_readsContact_113 rfl (by decide +kernel) ?_
          refine j_top (nI 4294967287) (by decide +kernel) ?_
          refine j_nast (pc' := 116) C [(a0, .inr (8, [.int th, .ref aX, .int (nI n), .int (nI (tke x n (tke x n (tke x n p)))), .int (nI (tko x n (tke x n (tke x n p)))), .int (nI (skp x n (tke x n (tke x n p)))), .int va1_10, .int (-1), .ref aT, .ref aD, .ref aS, .ref aU, .int um, .ref aK, .ref aI, .ref aL, .ref aE, .ref aF, .int sm, .ref aP, .ref aW, .int sn, .ref aB, .ref aM])), (aX, .inl (cyI, 100, .inl (nA x))), (aD, .inl (cyI, 42, .inl (nA (uN (uN (uN (uN d (3 + (d 1)) kd) (12 + (d 1)) (tkv x n p - 48)) (21 + (d 1)) (tkv x n (tke x n p) - 48)) (30 + (d 1)) 4294967287))))] 2 rfl (by omega) (by decide) dX8_readsContact_115 rfl rfl ?_
          refine j_aload_n (pc' := 117) C dX8_readsContact_116 rfl 2 rfl ?_
          refine j_get (v := .ref aD) (pc' := 120) C KX8 0 9 rfl (by decide) fl_X8_16 rfl rfl dX8_readsContact_117 rfl ?_
          refine j_iconst (v := (nI 1)) (pc' := 121) C dX8_readsContact_120 rfl (by decide +kernel) ?_
          refine j_dup2 (pc' := 122) C dX8_readsContact_121 rfl rfl rfl ?_
          refine j_nald (pc' := 123) C 2 rfl (by omega) (by decide) dX8_readsContact_122 rfl ?_
          refine j_iconst (v := (nI 1)) (pc' := 124) C dX8_readsContact_123 rfl (by decide +kernel) ?_
          refine j_iadd (v := (nI (((uN (uN (uN (uN d (3 + (d 1)) kd) (12 + (d 1)) (tkv x n p - 48)) (21 + (d 1)) (tkv x n (tke x n p) - 48)) (30 + (d 1)) 4294967287) 1) + 1))) (pc' := 125) C dX8_readsContact_124 rfl (nI_add ((uN (uN (uN (uN d (3 + (d 1)) kd) (12 + (d 1)) (tkv x n p - 48)) (21 + (d 1)) (tkv x n (tke x n p) - 48)) (30 + (d 1)) 4294967287) 1) 1) ?_
          refine j_nast (pc' := 126) C [(a0, .inr (8, [.int th, .ref aX, .int (nI n), .int (nI (tke x n (tke x n (tke x n p)))), .int (nI (tko x n (tke x n (tke x n p)))), .int (nI (skp x n (tke x n (tke x n p)))), .int va1_10, .int (-1), .ref aT, .ref aD, .ref aS, .ref aU, .int um, .ref aK, .ref aI, .ref aL, .ref aE, .ref aF, .int sm, .ref aP, .ref aW, .int sn, .ref aB, .ref aM])), (aX, .inl (cyI, 100, .inl (nA x))), (aD, .inl (cyI, 42, .inl (nA (uN (uN (uN (uN (uN d (3 + (d 1)) kd) (12 + (d 1)) (tkv x n p - 48)) (21 + (d 1)) (tkv x n (tke x n p) - 48)) (30 + (d 1)) 4294967287) 1 (((uN (uN (uN (uN d (3 + (d 1)) kd) (12 + (d 1)) (tkv x n p - 48)) (21 + (d 1)) (tkv x n (tke x n p) - 48)) (30 + (d 1)) 4294967287) 1) + 1)))))] 2 rfl (by omega) (by decide) dX8_readsContact_125 rfl rfl ?_
          exact j_vret C hr hk hA dX8_readsContact_126 (⟨_, _, _, _, _, _, rfl, (fun k hk9 => by simp only [uN_far (show 3 + d 1 < 42 by omega) hk9, uN_far (show 12 + d 1 < 42 by omega) hk9, uN_far (show 21 + d 1 < 42 by omega) hk9, uN_far (show 30 + d 1 < 42 by omega) hk9, uN_far (show 1 < 42 by omega) hk9]), Or.inr ⟨_, by unfold rdC; rw [if_neg (by rw [hb40]; decide), if_neg (by rw [c59, decide_eq_true (hne c75)]; decide), if_neg (by omega), addC_eq], by omega, rfl, rfl, rfl, rfl, hF83⟩⟩)
        · refine j_aload_n (pc' := 101) C dX8_readsContact_100 rfl 2 rfl ?_
          refine j_aload_n (pc' := 102) C dX8_readsContact_101 rfl 2 rfl ?_
          refine j_iconst (v := (nI 0)) (pc' := 103) C dX8_readsContact_102 rfl (by decide +kernel) ?_
          refine j_iconst (v := (nI 3)) (pc' := 104) C dX8_readsContact_103 rfl (by decide +kernel) ?_
          refine j_cVi (As := [.int (nI 0), .int (nI 3)]) (wr := [(aX, .inl (cyI, 100, .inl (nA x))), (aD, .inl (cyI, 42, .inl (nA (uN (uN (uN d (3 + (d 1)) kd) (12 + (d 1)) (tkv x n p - 48)) (21 + (d 1)) (tkv x n (tke x n p) - 48)))))]) (pc' := 107) C (c_X8_isNumber (a0 := a0) (th := th) (aX := aX) (ty := (nI n)) (sp := (nI (tke x n (tke x n (tke x n p))))) (pl := (nI (skp x n (tke x n (tke x n p))))) (va := va1_10) (fa := (-1)) (aT := aT) (aD := aD) (aS := aS) (aU := aU) (um := um) (aK := aK) (aI := aI) (aL := aL) (aE := aE) (aF := aF) (sm := sm) (aP := aP) (aW := aW) (sn := sn) (aB := aB) (aM := aM) (x := x) (n := n) (p := (tke x n (tke x n p))) (lo := 0) (hi := 3) (hv := hF83) (hlo := by omega) (hhi := by omega)) Y_X8_isNumber (ml_X8_100) [0] [1, 2] rfl rfl rfl rfl (by decide) rfl rfl rfl dX8_readsContact_104 rfl rfl rfl (Nat.le_of_ble_eq_true rfl) ⟨Nat.le_of_ble_eq_true rfl, Nat.le_of_ble_eq_true rfl⟩ ⟨Nat.le_of_ble_eq_true rfl, Nat.le_of_ble_eq_true rfl⟩ ⟨rfl, rfl⟩ (fun r11 w1 hQ => ?_)
          obtain ⟨rfl, rfl⟩ := hQ
          refine j_perm [(a0, .inr (8, [.int th, .ref aX, .int (nI n), .int (nI (tke x n (tke x n (tke x n p)))), .int (nI (tko x n (tke x n (tke x n p)))), .int (nI (skp x n (tke x n (tke x n p)))), .int va1_10, .int (-1), .ref aT, .ref aD, .ref aS, .ref aU, .int um, .ref aK, .ref aI, .ref aL, .ref aE, .ref aF, .int sm, .ref aP, .ref aW, .int sn, .ref aB, .ref aM])), (aX, .inl (cyI, 100, .inl (nA x))), (aD, .inl (cyI, 42, .inl (nA (uN (uN (uN d (3 + (d 1)) kd) (12 + (d 1)) (tkv x n p - 48)) (21 + (d 1)) (tkv x n (tke x n p) - 48)))))] [2, 0, 1] rfl rfl (by decide) ?_
          rcases Bool.eq_false_or_eq_true (okN x n (tke x n (tke x n p)) 0 3) with hb107 | hb107
          · refine j_top (bI true) (by rw [hb107]) ?_
            refine j_cVi (As := [.int (bI true)]) (wr := [(aD, .inl (cyI, 42, .inl (nA (uN (uN (uN d (3 + (d 1)) kd) (12 + (d 1)) (tkv x n p - 48)) (21 + (d 1)) (tkv x n (tke x n p) - 48)))))]) (pc' := 110) C (c_X8_takes_y (a0 := a0) (th := th) (aX := aX) (va := va1_10) (aT := aT) (aD := aD) (aS := aS) (aU := aU) (um := um) (aK := aK) (aI := aI) (aL := aL) (aE := aE) (aF := aF) (sm := sm) (aP := aP) (aW := aW) (sn := sn) (aB := aB) (aM := aM) (x := x) (n := n) (p := (tke x n (tke x n p))) (hn := by first | assumption | omega) (hx := by first | assumption | omega) (hp := by omega)) Y_X8_takes (ml_X8_104) [0, 1] [2] rfl rfl rfl rfl (by decide) rfl rfl rfl dX8_readsContact_107 rfl rfl rfl (Nat.le_of_ble_eq_true rfl) ⟨Nat.le_of_ble_eq_true rfl, Nat.le_of_ble_eq_true rfl⟩ ⟨Nat.le_of_ble_eq_true rfl, Nat.le_of_ble_eq_true rfl⟩ ⟨rfl, rfl⟩ (fun r12 w1 hQ => ?_)
            obtain ⟨va1_12, rfl, rfl, hF107⟩ := hQ
            refine j_perm [(a0, .inr (8, [.int th, .ref aX, .int (nI n), .int (nI (tke x n (tke x n (tke x n (tke x n p))))), .int (nI (tko x n (tke x n (tke x n (tke x n p))))), .int (nI (skp x n (tke x n (tke x n (tke x n p))))), .int va1_12, .int (-1), .ref aT, .ref aD, .ref aS, .ref aU, .int um, .ref aK, .ref aI, .ref aL, .ref aE, .ref aF, .int sm, .ref aP, .ref aW, .int sn, .ref aB, .ref aM])), (aX, .inl (cyI, 100, .inl (nA x))), (aD, .inl (cyI, 42, .inl (nA (uN (uN (uN d (3 + (d 1)) kd) (12 + (d 1)) (tkv x n p - 48)) (21 + (d 1)) (tkv x n (tke x n p) - 48)))))] [1, 2, 0] rfl rfl (by decide) ?_
            refine j_goto C 115 dX8_readsContact_110 (by decide) ?_
            refine j_top (nI (tkv x n (tke x n (tke x n p)) - 48)) (hF83.1 (okN_t hb107).1) ?_
            refine j_nast (pc' := 116) C [(a0, .inr (8, [.int th, .ref aX, .int (nI n), .int (nI (tke x n (tke x n (tke x n (tke x n p))))), .int (nI (tko x n (tke x n (tke x n (tke x n p))))), .int (nI (skp x n (tke x n (tke x n (tke x n p))))), .int va1_12, .int (-1), .ref aT, .ref aD, .ref aS, .ref aU, .int um, .ref aK, .ref aI, .ref aL, .ref aE, .ref aF, .int sm, .ref aP, .ref aW, .int sn, .ref aB, .ref aM])), (aX, .inl (cyI, 100, .inl (nA x))), (aD, .inl (cyI, 42, .inl (nA (uN (uN (uN (uN d (3 + (d 1)) kd) (12 + (d 1)) (tkv x n p - 48)) (21 + (d 1)) (tkv x n (tke x n p) - 48)) (30 + (d 1)) (tkv x n (tke x n (tke x n p)) - 48)))))] 2 rfl (by omega) (by decide) dX8_readsContact_115 rfl rfl ?_
            refine j_aload_n (pc' := 117) C dX8_readsContact_116 rfl 2 rfl ?_
            refine j_get (v := .ref aD) (pc' := 120) C KX8 0 9 rfl (by decide) fl_X8_16 rfl rfl dX8_readsContact_117 rfl ?_
            refine j_iconst (v := (nI 1)) (pc' := 121) C dX8_readsContact_120 rfl (by decide +kernel) ?_
            refine j_dup2 (pc' := 122) C dX8_readsContact_121 rfl rfl rfl ?_
            refine j_nald (pc' := 123) C 2 rfl (by omega) (by decide) dX8_readsContact_122 rfl ?_
            refine j_iconst (v := (nI 1)) (pc' := 124) C dX8_readsContact_123 rfl (by decide +kernel) ?_
            refine j_iadd (v := (nI (((uN (uN (uN (uN d (3 + (d 1)) kd) (12 + (d 1)) (tkv x n p - 48)) (21 + (d 1)) (tkv x n (tke x n p) - 48)) (30 + (d 1)) (tkv x n (tke x n (tke x n p)) - 48)) 1) + 1))) (pc' := 125) C dX8_readsContact_124 rfl (nI_add ((uN (uN (uN (uN d (3 + (d 1)) kd) (12 + (d 1)) (tkv x n p - 48)) (21 + (d 1)) (tkv x n (tke x n p) - 48)) (30 + (d 1)) (tkv x n (tke x n (tke x n p)) - 48)) 1) 1) ?_
            refine j_nast (pc' := 126) C [(a0, .inr (8, [.int th, .ref aX, .int (nI n), .int (nI (tke x n (tke x n (tke x n (tke x n p))))), .int (nI (tko x n (tke x n (tke x n (tke x n p))))), .int (nI (skp x n (tke x n (tke x n (tke x n p))))), .int va1_12, .int (-1), .ref aT, .ref aD, .ref aS, .ref aU, .int um, .ref aK, .ref aI, .ref aL, .ref aE, .ref aF, .int sm, .ref aP, .ref aW, .int sn, .ref aB, .ref aM])), (aX, .inl (cyI, 100, .inl (nA x))), (aD, .inl (cyI, 42, .inl (nA (uN (uN (uN (uN (uN d (3 + (d 1)) kd) (12 + (d 1)) (tkv x n p - 48)) (21 + (d 1)) (tkv x n (tke x n p) - 48)) (30 + (d 1)) (tkv x n (tke x n (tke x n p)) - 48)) 1 (((uN (uN (uN (uN d (3 + (d 1)) kd) (12 + (d 1)) (tkv x n p - 48)) (21 + (d 1)) (tkv x n (tke x n p) - 48)) (30 + (d 1)) (tkv x n (tke x n (tke x n p)) - 48)) 1) + 1)))))] 2 rfl (by omega) (by decide) dX8_readsContact_125 rfl rfl ?_
            exact j_vret C hr hk hA dX8_readsContact_126 (⟨_, _, _, _, _, _, rfl, (fun k hk9 => by simp only [uN_far (show 3 + d 1 < 42 by omega) hk9, uN_far (show 12 + d 1 < 42 by omega) hk9, uN_far (show 21 + d 1 < 42 by omega) hk9, uN_far (show 30 + d 1 < 42 by omega) hk9, uN_far (show 1 < 42 by omega) hk9]), Or.inr ⟨_, by unfold rdC; rw [if_neg (by rw [hb40]; decide), if_neg (by rw [c59, decide_eq_true (hne c75)]; decide), if_pos (by omega), if_neg (by rw [hb107]; decide), addC_eq], by have := tke_ge x (n := n) (p := tke x n (tke x n p)) (by omega); omega, rfl, rfl, rfl, rfl, hF107⟩⟩)
          · refine j_top (bI false) (by rw [hb107]) ?_
            refine j_cVi (As := [.int (bI false)]) (wr := [(aD, .inl (cyI, 42, .inl (nA (uN (uN (uN d (3 + (d 1)) kd) (12 + (d 1)) (tkv x n p - 48)) (21 + (d 1)) (tkv x n (tke x n p) - 48)))))]) (pc' := 110) C (c_X8_takes_n (a0 := a0) (th := th) (aX := aX) (va := va1_10) (aT := aT) (aD := aD) (aS := aS) (aU := aU) (um := um) (aK := aK) (aI := aI) (aL := aL) (aE := aE) (aF := aF) (sm := sm) (aP := aP) (aW := aW) (sn := sn) (aB := aB) (aM := aM) (x := x) (n := n) (p := (tke x n (tke x n p))) ) Y_X8_takes (ml_X8_104) [0, 1] [2] rfl rfl rfl rfl (by decide) rfl rfl rfl dX8_readsContact_107 rfl rfl rfl (Nat.le_of_ble_eq_true rfl) ⟨Nat.le_of_ble_eq_true rfl, Nat.le_of_ble_eq_true rfl⟩ ⟨Nat.le_of_ble_eq_true rfl, Nat.le_of_ble_eq_true rfl⟩ ⟨rfl, rfl⟩ (fun r13 w1 hQ => ?_)
            obtain ⟨rfl, rfl⟩ := hQ
            refine j_perm [(a0, .inr (8, [.int th, .ref aX, .int (nI n), .int (nI (tke x n (tke x n (tke x n p)))), .int (nI (tko x n (tke x n (tke x n p)))), .int (nI (skp x n (tke x n (tke x n p)))), .int va1_10, .int (nI (skp x n (tke x n (tke x n p)))), .ref aT, .ref aD, .ref aS, .ref aU, .int um, .ref aK, .ref aI, .ref aL, .ref aE, .ref aF, .int sm, .ref aP, .ref aW, .int sn, .ref aB, .ref aM])), (aX, .inl (cyI, 100, .inl (nA x))), (aD, .inl (cyI, 42, .inl (nA (uN (uN (uN d (3 + (d 1)) kd) (12 + (d 1)) (tkv x n p - 48)) (21 + (d 1)) (tkv x n (tke x n p) - 48)))))] [1, 2, 0] rfl rfl (by decide) ?_
            refine j_goto C 115 dX8_readsContact_110 (by decide) ?_
            refine j_nast (pc' := 116) C [(a0, .inr (8, [.int th, .ref aX, .int (nI n), .int (nI (tke x n (tke x n (tke x n p)))), .int (nI (tko x n (tke x n (tke x n p)))), .int (nI (skp x n (tke x n (tke x n p)))), .int va1_10, .int (nI (skp x n (tke x n (tke x n p)))), .ref aT, .ref aD, .ref aS, .ref aU, .int um, .ref aK, .ref aI, .ref aL, .ref aE, .ref aF, .int sm, .ref aP, .ref aW, .int sn, .ref aB, .ref aM])), (aX, .inl (cyI, 100, .inl (nA x))), (aD, .inl (cyI, 42, .inl (nA (uN (uN (uN (uN d (3 + (d 1)) kd) (12 + (d 1)) (tkv x n p - 48)) (21 + (d 1)) (tkv x n (tke x n p) - 48)) (30 + (d 1)) 0))))] 2 rfl (by omega) (by decide) dX8_readsContact_115 rfl rfl ?_
            refine j_aload_n (pc' := 117) C dX8_readsContact_116 rfl 2 rfl ?_
            refine j_get (v := .ref aD) (pc' := 120) C KX8 0 9 rfl (by decide) fl_X8_16 rfl rfl dX8_readsContact_117 rfl ?_
            refine j_iconst (v := (nI 1)) (pc' := 121) C dX8_readsContact_120 rfl (by decide +kernel) ?_
            refine j_dup2 (pc' := 122) C dX8_readsContact_121 rfl rfl rfl ?_
            refine j_nald (pc' := 123) C 2 rfl (by omega) (by decide) dX8_readsContact_122 rfl ?_
            refine j_iconst (v := (nI 1)) (pc' := 124) C dX8_readsContact_123 rfl (by decide +kernel) ?_
            refine j_iadd (v := (nI (((uN (uN (uN (uN d (3 + (d 1)) kd) (12 + (d 1)) (tkv x n p - 48)) (21 + (d 1)) (tkv x n (tke x n p) - 48)) (30 + (d 1)) 0) 1) + 1))) (pc' := 125) C dX8_readsContact_124 rfl (nI_add ((uN (uN (uN (uN d (3 + (d 1)) kd) (12 + (d 1)) (tkv x n p - 48)) (21 + (d 1)) (tkv x n (tke x n p) - 48)) (30 + (d 1)) 0) 1) 1) ?_
            refine j_nast (pc' := 126) C [(a0, .inr (8, [.int th, .ref aX, .int (nI n), .int (nI (tke x n (tke x n (tke x n p)))), .int (nI (tko x n (tke x n (tke x n p)))), .int (nI (skp x n (tke x n (tke x n p)))), .int va1_10, .int (nI (skp x n (tke x n (tke x n p)))), .ref aT, .ref aD, .ref aS, .ref aU, .int um, .ref aK, .ref aI, .ref aL, .ref aE, .ref aF, .int sm, .ref aP, .ref aW, .int sn, .ref aB, .ref aM])), (aX, .inl (cyI, 100, .inl (nA x))), (aD, .inl (cyI, 42, .inl (nA (uN (uN (uN (uN (uN d (3 + (d 1)) kd) (12 + (d 1)) (tkv x n p - 48)) (21 + (d 1)) (tkv x n (tke x n p) - 48)) (30 + (d 1)) 0) 1 (((uN (uN (uN (uN d (3 + (d 1)) kd) (12 + (d 1)) (tkv x n p - 48)) (21 + (d 1)) (tkv x n (tke x n p) - 48)) (30 + (d 1)) 0) 1) + 1)))))] 2 rfl (by omega) (by decide) dX8_readsContact_125 rfl rfl ?_
            exact j_vret C hr hk hA dX8_readsContact_126 (⟨_, _, _, _, _, _, rfl, (fun k hk9 => by simp only [uN_far (show 3 + d 1 < 42 by omega) hk9, uN_far (show 12 + d 1 < 42 by omega) hk9, uN_far (show 21 + d 1 < 42 by omega) hk9, uN_far (show 30 + d 1 < 42 by omega) hk9, uN_far (show 1 < 42 by omega) hk9]), Or.inl ⟨_, by unfold rdC; rw [if_neg (by rw [hb40]; decide), if_neg (by rw [c59, decide_eq_true (hne c75)]; decide), if_pos (by omega), if_pos hb107], rfl, (skp_ge x (by omega)).2⟩⟩)
  · refine j_top (bI false) (by rw [hb40]) ?_
    refine j_cVi (As := [.int (bI false)]) (wr := [(aD, .inl (cyI, 42, .inl (nA (uN d (3 + (d 1)) kd))))]) (pc' := 43) C (c_X8_takes_n (a0 := a0) (th := th) (aX := aX) (va := va) (aT := aT) (aD := aD) (aS := aS) (aU := aU) (um := um) (aK := aK) (aI := aI) (aL := aL) (aE := aE) (aF := aF) (sm := sm) (aP := aP) (aW := aW) (sn := sn) (aB := aB) (aM := aM) (x := x) (n := n) (p := p) ) Y_X8_takes (ml_X8_104) [0, 1] [2] rfl rfl rfl rfl (by decide) rfl rfl rfl dX8_readsContact_40 rfl rfl rfl (Nat.le_of_ble_eq_true rfl) ⟨Nat.le_of_ble_eq_true rfl, Nat.le_of_ble_eq_true rfl⟩ ⟨Nat.le_of_ble_eq_true rfl, Nat.le_of_ble_eq_true rfl⟩ ⟨rfl, rfl⟩ (fun r14 w1 hQ => ?_)
    obtain ⟨rfl, rfl⟩ := hQ
    refine j_perm [(a0, .inr (8, [.int th, .ref aX, .int (nI n), .int (nI (tke x n p)), .int (nI (tko x n p)), .int (nI (skp x n p)), .int va, .int (nI (skp x n p)), .ref aT, .ref aD, .ref aS, .ref aU, .int um, .ref aK, .ref aI, .ref aL, .ref aE, .ref aF, .int sm, .ref aP, .ref aW, .int sn, .ref aB, .ref aM])), (aX, .inl (cyI, 100, .inl (nA x))), (aD, .inl (cyI, 42, .inl (nA (uN d (3 + (d 1)) kd))))] [1, 2, 0] rfl rfl (by decide) ?_
    refine j_nast (pc' := 44) C [(a0, .inr (8, [.int th, .ref aX, .int (nI n), .int (nI (tke x n p)), .int (nI (tko x n p)), .int (nI (skp x n p)), .int va, .int (nI (skp x n p)), .ref aT, .ref aD, .ref aS, .ref aU, .int um, .ref aK, .ref aI, .ref aL, .ref aE, .ref aF, .int sm, .ref aP, .ref aW, .int sn, .ref aB, .ref aM])), (aX, .inl (cyI, 100, .inl (nA x))), (aD, .inl (cyI, 42, .inl (nA (uN (uN d (3 + (d 1)) kd) (12 + (d 1)) 0))))] 2 rfl (by omega) (by decide) dX8_readsContact_43 rfl rfl ?_
    refine j_aload_n (pc' := 45) C dX8_readsContact_44 rfl 2 rfl ?_
    refine j_get (v := .ref aD) (pc' := 48) C KX8 0 9 rfl (by decide) fl_X8_16 rfl rfl dX8_readsContact_45 rfl ?_
    refine j_bipush (v := (nI 21)) (pc' := 50) C dX8_readsContact_48 rfl (by decide +kernel) ?_
    refine j_iload_n (pc' := 51) C dX8_readsContact_50 rfl 1 rfl ?_
    refine j_iadd (v := (nI (21 + (d 1)))) (pc' := 52) C dX8_readsContact_51 rfl (nI_add 21 (d 1)) ?_
    refine j_aload_n (pc' := 53) C dX8_readsContact_52 rfl 2 rfl ?_
    refine j_aload_n (pc' := 54) C dX8_readsContact_53 rfl 2 rfl ?_
    refine j_iconst (v := (nI 0)) (pc' := 55) C dX8_readsContact_54 rfl (by decide +kernel) ?_
    refine j_iload_n (pc' := 56) C dX8_readsContact_55 rfl 0 rfl ?_
    refine j_cVi (As := [.int (nI 0), .int (nI ((d 0) - 1))]) (wr := [(aX, .inl (cyI, 100, .inl (nA x))), (aD, .inl (cyI, 42, .inl (nA (uN (uN d (3 + (d 1)) kd) (12 + (d 1)) 0))))]) (pc' := 59) C (c_X8_isNumber (a0 := a0) (th := th) (aX := aX) (ty := (nI n)) (sp := (nI (tke x n p))) (pl := (nI (skp x n p))) (va := va) (fa := (nI (skp x n p))) (aT := aT) (aD := aD) (aS := aS) (aU := aU) (um := um) (aK := aK) (aI := aI) (aL := aL) (aE := aE) (aF := aF) (sm := sm) (aP := aP) (aW := aW) (sn := sn) (aB := aB) (aM := aM) (x := x) (n := n) (p := p) (lo := 0) (hi := (d 0) - 1) (hv := hv) (hlo := by omega) (hhi := by omega)) Y_X8_isNumber (ml_X8_100) [0] [1, 2] rfl rfl rfl rfl (by decide) rfl rfl rfl dX8_readsContact_56 rfl rfl rfl (Nat.le_of_ble_eq_true rfl) ⟨Nat.le_of_ble_eq_true rfl, Nat.le_of_ble_eq_true rfl⟩ ⟨Nat.le_of_ble_eq_true rfl, Nat.le_of_ble_eq_true rfl⟩ ⟨rfl, rfl⟩ (fun r15 w1 hQ => ?_)
    obtain ⟨rfl, rfl⟩ := hQ
    refine j_perm [(a0, .inr (8, [.int th, .ref aX, .int (nI n), .int (nI (tke x n p)), .int (nI (tko x n p)), .int (nI (skp x n p)), .int va, .int (nI (skp x n p)), .ref aT, .ref aD, .ref aS, .ref aU, .int um, .ref aK, .ref aI, .ref aL, .ref aE, .ref aF, .int sm, .ref aP, .ref aW, .int sn, .ref aB, .ref aM])), (aX, .inl (cyI, 100, .inl (nA x))), (aD, .inl (cyI, 42, .inl (nA (uN (uN d (3 + (d 1)) kd) (12 + (d 1)) 0))))] [2, 0, 1] rfl rfl (by decide) ?_
    refine j_b_eq (pc' := 62) C 82 dX8_readsContact_59 (by decide) rfl (fun c59 => ?_) (fun c59 => ?_)
    · refine j_iconst (v := (nI 0)) (pc' := 83) C dX8_readsContact_82 rfl (by decide +kernel) ?_
      refine j_cVi (As := [.int (nI 0)]) (wr := [(aX, .inl (cyI, 100, .inl (nA x))), (aD, .inl (cyI, 42, .inl (nA (uN (uN d (3 + (d 1)) kd) (12 + (d 1)) 0))))]) (pc' := 86) C (c_X8_takes_f (a0 := a0) (th := th) (aX := aX) (ty := (nI n)) (sp := (nI (tke x n p))) (tk := (nI (tko x n p))) (pl := (nI (skp x n p))) (va := va) (aT := aT) (aD := aD) (aS := aS) (aU := aU) (um := um) (aK := aK) (aI := aI) (aL := aL) (aE := aE) (aF := aF) (sm := sm) (aP := aP) (aW := aW) (sn := sn) (aB := aB) (aM := aM) (f := skp x n p) (b := false) (hf := by have := (skp_ge x (n := n) (p := p) hp).2; have := (skp_ge x (n := n) (p := tke x n p) (by omega)).2; omega)) Y_X8_takes (ml_X8_104) [0] [1, 2] rfl rfl rfl rfl (by decide) rfl rfl rfl dX8_readsContact_83 rfl rfl rfl (Nat.le_of_ble_eq_true rfl) ⟨Nat.le_of_ble_eq_true rfl, Nat.le_of_ble_eq_true rfl⟩ ⟨Nat.le_of_ble_eq_true rfl, Nat.le_of_ble_eq_true rfl⟩ ⟨rfl, rfl⟩ (fun r16 w1 hQ => ?_)
      obtain ⟨rfl, rfl⟩ := hQ
      refine j_perm [(a0, .inr (8, [.int th, .ref aX, .int (nI n), .int (nI (tke x n p)), .int (nI (tko x n p)), .int (nI (skp x n p)), .int va, .int (nI (skp x n p)), .ref aT, .ref aD, .ref aS, .ref aU, .int um, .ref aK, .ref aI, .ref aL, .ref aE, .ref aF, .int sm, .ref aP, .ref aW, .int sn, .ref aB, .ref aM])), (aX, .inl (cyI, 100, .inl (nA x))), (aD, .inl (cyI, 42, .inl (nA (uN (uN d (3 + (d 1)) kd) (12 + (d 1)) 0))))] [2, 0, 1] rfl rfl (by decide) ?_
      refine j_nast (pc' := 87) C [(a0, .inr (8, [.int th, .ref aX, .int (nI n), .int (nI (tke x n p)), .int (nI (tko x n p)), .int (nI (skp x n p)), .int va, .int (nI (skp x n p)), .ref aT, .ref aD, .ref aS, .ref aU, .int um, .ref aK, .ref aI, .ref aL, .ref aE, .ref aF, .int sm, .ref aP, .ref aW, .int sn, .ref aB, .ref aM])), (aX, .inl (cyI, 100, .inl (nA x))), (aD, .inl (cyI, 42, .inl (nA (uN (uN (uN d (3 + (d 1)) kd) (12 + (d 1)) 0) (21 + (d 1)) 0))))] 2 rfl (by omega) (by decide) dX8_readsContact_86 rfl rfl ?_
      refine j_aload_n (pc' := 88) C dX8_readsContact_87 rfl 2 rfl ?_
      refine j_get (v := .ref aD) (pc' := 91) C KX8 0 9 rfl (by decide) fl_X8_16 rfl rfl dX8_readsContact_88 rfl ?_
      refine j_bipush (v := (nI 30)) (pc' := 93) C dX8_readsContact_91 rfl (by decide +kernel) ?_
      refine j_iload_n (pc' := 94) C dX8_readsContact_93 rfl 1 rfl ?_
      refine j_iadd (v := (nI (30 + (d 1)))) (pc' := 95) C dX8_readsContact_94 rfl (nI_add 30 (d 1)) ?_
      refine j_iload_n (pc' := 96) C dX8_readsContact_95 rfl 3 rfl ?_
      refine j_iconst (v := (nI 2)) (pc' := 97) C dX8_readsContact_96 rfl (by decide +kernel) ?_
      refine j_nc_ge (pc' := 100) C 113 dX8_readsContact_97 (by decide) rfl (by omega) (by omega) (fun c97 => ?_) (fun c97 => ?_)
      · refine j_bipush (v := (-9)) (pc' := 115) C dX8_readsContact_113 rfl (by decide +kernel) ?_
        refine j_top (nI 4294967287) (by decide +kernel) ?_
        refine j_nast (pc' := 116) C [(a0, .inr (8, [.int th, .ref aX, .int (nI n), .int (nI (tke x n p)), .int (nI (tko x n p)), .int (nI (skp x n p)), .int va, .int (nI (skp x n p)), .ref aT, .ref aD, .ref aS, .ref aU, .int um, .ref aK, .ref aI, .ref aL, .ref aE, .ref aF, .int sm, .ref aP, .ref aW, .int sn, .ref aB, .ref aM])), (aX, .inl (cyI, 100, .inl (nA x))), (aD, .inl (cyI, 42, .inl (nA (uN (uN (uN (uN d (3 + (d 1)) kd) (12 + (d 1)) 0) (21 + (d 1)) 0) (30 + (d 1)) 4294967287))))] 2 rfl (by omega) (by decide) dX8_readsContact_115 rfl rfl ?_
        refine j_aload_n (pc' := 117) C dX8_readsContact_116 rfl 2 rfl ?_
        refine j_get (v := .ref aD) (pc' := 120) C KX8 0 9 rfl (by decide) fl_X8_16 rfl rfl dX8_readsContact_117 rfl ?_
        refine j_iconst (v := (nI 1)) (pc' := 121) C dX8_readsContact_120 rfl (by decide +kernel) ?_
        refine j_dup2 (pc' := 122) C dX8_readsContact_121 rfl rfl rfl ?_
        refine j_nald (pc' := 123) C 2 rfl (by omega) (by decide) dX8_readsContact_122 rfl ?_
        refine j_iconst (v := (nI 1)) (pc' := 124) C dX8_readsContact_123 rfl (by decide +kernel) ?_
        refine j_iadd (v := (nI (((uN (uN (uN (uN d (3 + (d 1)) kd) (12 + (d 1)) 0) (21 + (d 1)) 0) (30 + (d 1)) 4294967287) 1) + 1))) (pc' := 125) C dX8_readsContact_124 rfl (nI_add ((uN (uN (uN (uN d (3 + (d 1)) kd) (12 + (d 1)) 0) (21 + (d 1)) 0) (30 + (d 1)) 4294967287) 1) 1) ?_
        refine j_nast (pc' := 126) C [(a0, .inr (8, [.int th, .ref aX, .int (nI n), .int (nI (tke x n p)), .int (nI (tko x n p)), .int (nI (skp x n p)), .int va, .int (nI (skp x n p)), .ref aT, .ref aD, .ref aS, .ref aU, .int um, .ref aK, .ref aI, .ref aL, .ref aE, .ref aF, .int sm, .ref aP, .ref aW, .int sn, .ref aB, .ref aM])), (aX, .inl (cyI, 100, .inl (nA x))), (aD, .inl (cyI, 42, .inl (nA (uN (uN (uN (uN (uN d (3 + (d 1)) kd) (12 + (d 1)) 0) (21 + (d 1)) 0) (30 + (d 1)) 4294967287) 1 (((uN (uN (uN (uN d (3 + (d 1)) kd) (12 + (d 1)) 0) (21 + (d 1)) 0) (30 + (d 1)) 4294967287) 1) + 1)))))] 2 rfl (by omega) (by decide) dX8_readsContact_125 rfl rfl ?_
        exact j_vret C hr hk hA dX8_readsContact_126 (⟨_, _, _, _, _, _, rfl, (fun k hk9 => by simp only [uN_far (show 3 + d 1 < 42 by omega) hk9, uN_far (show 12 + d 1 < 42 by omega) hk9, uN_far (show 21 + d 1 < 42 by omega) hk9, uN_far (show 30 + d 1 < 42 by omega) hk9, uN_far (show 1 < 42 by omega) hk9]), Or.inl ⟨_, by unfold rdC; rw [if_pos hb40], rfl, (skp_ge x (by omega)).2⟩⟩)
      · refine j_aload_n (pc' := 101) C dX8_readsContact_100 rfl 2 rfl ?_
        refine j_aload_n (pc' := 102) C dX8_readsContact_101 rfl 2 rfl ?_
        refine j_iconst (v := (nI 0)) (pc' := 103) C dX8_readsContact_102 rfl (by decide +kernel) ?_
        refine j_iconst (v := (nI 3)) (pc' := 104) C dX8_readsContact_103 rfl (by decide +kernel) ?_
        refine j_cVi (As := [.int (nI 0), .int (nI 3)]) (wr := [(aX, .inl (cyI, 100, .inl (nA x))), (aD, .inl (cyI, 42, .inl (nA (uN (uN (uN d (3 + (d 1)) kd) (12 + (d 1)) 0) (21 + (d 1)) 0))))]) (pc' := 107) C (c_X8_isNumber (a0 := a0) (th := th) (aX := aX) (ty := (nI n)) (sp := (nI (tke x n p))) (pl := (nI (skp x n p))) (va := va) (fa := (nI (skp x n p))) (aT := aT) (aD := aD) (aS := aS) (aU := aU) (um := um) (aK := aK) (aI := aI) (aL := aL) (aE := aE) (aF := aF) (sm := sm) (aP := aP) (aW := aW) (sn := sn) (aB := aB) (aM := aM) (x := x) (n := n) (p := p) (lo := 0) (hi := 3) (hv := hv) (hlo := by omega) (hhi := by omega)) Y_X8_isNumber (ml_X8_100) [0] [1, 2] rfl rfl rfl rfl (by decide) rfl rfl rfl dX8_readsContact_104 rfl rfl rfl (Nat.le_of_ble_eq_true rfl) ⟨Nat.le_of_ble_eq_true rfl, Nat.le_of_ble_eq_true rfl⟩ ⟨Nat.le_of_ble_eq_true rfl, Nat.le_of_ble_eq_true rfl⟩ ⟨rfl, rfl⟩ (fun r17 w1 hQ => ?_)
        obtain ⟨rfl, rfl⟩ := hQ
        refine j_perm [(a0, .inr (8, [.int th, .ref aX, .int (nI n), .int (nI (tke x n p)), .int (nI (tko x n p)), .int (nI (skp x n p)), .int va, .int (nI (skp x n p)), .ref aT, .ref aD, .ref aS, .ref aU, .int um, .ref aK, .ref aI, .ref aL, .ref aE, .ref aF, .int sm, .ref aP, .ref aW, .int sn, .ref aB, .ref aM])), (aX, .inl (cyI, 100, .inl (nA x))), (aD, .inl (cyI, 42, .inl (nA (uN (uN (uN d (3 + (d 1)) kd) (12 + (d 1)) 0) (21 + (d 1)) 0))))] [2, 0, 1] rfl rfl (by decide) ?_
        refine j_cVi (As := [.int (bI (okN x n p 0 3))]) (wr := [(aX, .inl (cyI, 100, .inl (nA x))), (aD, .inl (cyI, 42, .inl (nA (uN (uN (uN d (3 + (d 1)) kd) (12 + (d 1)) 0) (21 + (d 1)) 0))))]) (pc' := 110) C (c_X8_takes_f (a0 := a0) (th := th) (aX := aX) (ty := (nI n)) (sp := (nI (tke x n p))) (tk := (nI (tko x n p))) (pl := (nI (skp x n p))) (va := va) (aT := aT) (aD := aD) (aS := aS) (aU := aU) (um := um) (aK := aK) (aI := aI) (aL := aL) (aE := aE) (aF := aF) (sm := sm) (aP := aP) (aW := aW) (sn := sn) (aB := aB) (aM := aM) (f := skp x n p) (b := okN x n p 0 3) (hf := by have := (skp_ge x (n := n) (p := p) hp).2; have := (skp_ge x (n := n) (p := tke x n p) (by omega)).2; omega)) Y_X8_takes (ml_X8_104) [0] [1, 2] rfl rfl rfl rfl (by decide) rfl rfl rfl dX8_readsContact_107 rfl rfl rfl (Nat.le_of_ble_eq_true rfl) ⟨Nat.le_of_ble_eq_true rfl, Nat.le_of_ble_eq_true rfl⟩ ⟨Nat.le_of_ble_eq_true rfl, Nat.le_of_ble_eq_true rfl⟩ ⟨rfl, rfl⟩ (fun r18 w1 hQ => ?_)
        obtain ⟨rfl, rfl⟩ := hQ
        refine j_perm [(a0, .inr (8, [.int th, .ref aX, .int (nI n), .int (nI (tke x n p)), .int (nI (tko x n p)), .int (nI (skp x n p)), .int va, .int (nI (skp x n p)), .ref aT, .ref aD, .ref aS, .ref aU, .int um, .ref aK, .ref aI, .ref aL, .ref aE, .ref aF, .int sm, .ref aP, .ref aW, .int sn, .ref aB, .ref aM])), (aX, .inl (cyI, 100, .inl (nA x))), (aD, .inl (cyI, 42, .inl (nA (uN (uN (uN d (3 + (d 1)) kd) (12 + (d 1)) 0) (21 + (d 1)) 0))))] [2, 0, 1] rfl rfl (by decide) ?_
        refine j_goto C 115 dX8_readsContact_110 (by decide) ?_
        refine j_nast (pc' := 116) C [(a0, .inr (8, [.int th, .ref aX, .int (nI n), .int (nI (tke x n p)), .int (nI (tko x n p)), .int (nI (skp x n p)), .int va, .int (nI (skp x n p)), .ref aT, .ref aD, .ref aS, .ref aU, .int um, .ref aK, .ref aI, .ref aL, .ref aE, .ref aF, .int sm, .ref aP, .ref aW, .int sn, .ref aB, .ref aM])), (aX, .inl (cyI, 100, .inl (nA x))), (aD, .inl (cyI, 42, .inl (nA (uN (uN (uN (uN d (3 + (d 1)) kd) (12 + (d 1)) 0) (21 + (d 1)) 0) (30 + (d 1)) 0))))] 2 rfl (by omega) (by decide) dX8_readsContact_115 rfl rfl ?_
        refine j_aload_n (pc' := 117) C dX8_readsContact_116 rfl 2 rfl ?_
        refine j_get (v := .ref aD) (pc' := 120) C KX8 0 9 rfl (by decide) fl_X8_16 rfl rfl dX8_readsContact_117 rfl ?_
        refine j_iconst (v := (nI 1)) (pc' := 121) C dX8_readsContact_120 rfl (by decide +kernel) ?_
        refine j_dup2 (pc' := 122) C dX8_readsContact_121 rfl rfl rfl ?_
        refine j_nald (pc' := 123) C 2 rfl (by omega) (by decide) dX8_readsContact_122 rfl ?_
        refine j_iconst (v := (nI 1)) (pc' := 124) C dX8_readsContact_123 rfl (by decide +kernel) ?_
        refine j_iadd (v := (nI (((uN (uN (uN (uN d (3 + (d 1)) kd) (12 + (d 1)) 0) (21 + (d 1)) 0) (30 + (d 1)) 0) 1) + 1))) (pc' := 125) C dX8_readsContact_124 rfl (nI_add ((uN (uN (uN (uN d (3 + (d 1)) kd) (12 + (d 1)) 0) (21 + (d 1)) 0) (30 + (d 1)) 0) 1) 1) ?_
        refine j_nast (pc' := 126) C [(a0, .inr (8, [.int th, .ref aX, .int (nI n), .int (nI (tke x n p)), .int (nI (tko x n p)), .int (nI (skp x n p)), .int va, .int (nI (skp x n p)), .ref aT, .ref aD, .ref aS, .ref aU, .int um, .ref aK, .ref aI, .ref aL, .ref aE, .ref aF, .int sm, .ref aP, .ref aW, .int sn, .ref aB, .ref aM])), (aX, .inl (cyI, 100, .inl (nA x))), (aD, .inl (cyI, 42, .inl (nA (uN (uN (uN (uN (uN d (3 + (d 1)) kd) (12 + (d 1)) 0) (21 + (d 1)) 0) (30 + (d 1)) 0) 1 (((uN (uN (uN (uN d (3 + (d 1)) kd) (12 + (d 1)) 0) (21 + (d 1)) 0) (30 + (d 1)) 0) 1) + 1)))))] 2 rfl (by omega) (by decide) dX8_readsContact_125 rfl rfl ?_
        exact j_vret C hr hk hA dX8_readsContact_126 (⟨_, _, _, _, _, _, rfl, (fun k hk9 => by simp only [uN_far (show 3 + d 1 < 42 by omega) hk9, uN_far (show 12 + d 1 < 42 by omega) hk9, uN_far (show 21 + d 1 < 42 by omega) hk9, uN_far (show 30 + d 1 < 42 by omega) hk9, uN_far (show 1 < 42 by omega) hk9]), Or.inl ⟨_, by unfold rdC; rw [if_pos hb40], rfl, (skp_ge x (by omega)).2⟩⟩)
    · refine j_aload_n (pc' := 63) C dX8_readsContact_62 rfl 2 rfl ?_
      refine j_get (v := .int va) (pc' := 66) C KX8 0 6 rfl (by decide) fl_X8_83 rfl rfl dX8_readsContact_63 rfl ?_
      refine j_aload_n (pc' := 67) C dX8_readsContact_66 rfl 2 rfl ?_
      refine j_get (v := .ref aD) (pc' := 70) C KX8 0 9 rfl (by decide) fl_X8_16 rfl rfl dX8_readsContact_67 rfl ?_
      refine j_bipush (v := (nI 12)) (pc' := 72) C dX8_readsContact_70 rfl (by decide +kernel) ?_
      refine j_iload_n (pc' := 73) C dX8_readsContact_72 rfl 1 rfl ?_
      refine j_iadd (v := (nI (12 + (d 1)))) (pc' := 74) C dX8_readsContact_73 rfl (nI_add 12 (d 1)) ?_
      refine j_nald (pc' := 75) C 2 rfl (by omega) (by decide) dX8_readsContact_74 rfl ?_
      refine j_ic_eq (pc' := 78) C 82 dX8_readsContact_75 (by decide) rfl (fun c75 => ?_) (fun c75 => ?_)
      · refine j_iconst (v := (nI 0)) (pc' := 83) C dX8_readsContact_82 rfl (by decide +kernel) ?_
        refine j_cVi (As := [.int (nI 0)]) (wr := [(aX, .inl (cyI, 100, .inl (nA x))), (aD, .inl (cyI, 42, .inl (nA (uN (uN d (3 + (d 1)) kd) (12 + (d 1)) 0))))]) (pc' := 86) C (c_X8_takes_f (a0 := a0) (th := th) (aX := aX) (ty := (nI n)) (sp := (nI (tke x n p))) (tk := (nI (tko x n p))) (pl := (nI (skp x n p))) (va := va) (aT := aT) (aD := aD) (aS := aS) (aU := aU) (um := um) (aK := aK) (aI := aI) (aL := aL) (aE := aE) (aF := aF) (sm := sm) (aP := aP) (aW := aW) (sn := sn) (aB := aB) (aM := aM) (f := skp x n p) (b := false) (hf := by have := (skp_ge x (n := n) (p := p) hp).2; have := (skp_ge x (n := n) (p := tke x n p) (by omega)).2; omega)) Y_X8_takes (ml_X8_104) [0] [1, 2] rfl rfl rfl rfl (by decide) rfl rfl rfl dX8_readsContact_83 rfl rfl rfl (Nat.le_of_ble_eq_true rfl) ⟨Nat.le_of_ble_eq_true rfl, Nat.le_of_ble_eq_true rfl⟩ ⟨Nat.le_of_ble_eq_true rfl, Nat.le_of_ble_eq_true rfl⟩ ⟨rfl, rfl⟩ (fun r19 w1 hQ => ?_)
        obtain ⟨rfl, rfl⟩ := hQ
        refine j_perm [(a0, .inr (8, [.int th, .ref aX, .int (nI n), .int (nI (tke x n p)), .int (nI (tko x n p)), .int (nI (skp x n p)), .int va, .int (nI (skp x n p)), .ref aT, .ref aD, .ref aS, .ref aU, .int um, .ref aK, .ref aI, .ref aL, .ref aE, .ref aF, .int sm, .ref aP, .ref aW, .int sn, .ref aB, .ref aM])), (aX, .inl (cyI, 100, .inl (nA x))), (aD, .inl (cyI, 42, .inl (nA (uN (uN d (3 + (d 1)) kd) (12 + (d 1)) 0))))] [2, 0, 1] rfl rfl (by decide) ?_
        refine j_nast (pc' := 87) C [(a0, .inr (8, [.int th, .ref aX, .int (nI n), .int (nI (tke x n p)), .int (nI (tko x n p)), .int (nI (skp x n p)), .int va, .int (nI (skp x n p)), .ref aT, .ref aD, .ref aS, .ref aU, .int um, .ref aK, .ref aI, .ref aL, .ref aE, .ref aF, .int sm, .ref aP, .ref aW, .int sn, .ref aB, .ref aM])), (aX, .inl (cyI, 100, .inl (nA x))), (aD, .inl (cyI, 42, .inl (nA (uN (uN (uN d (3 + (d 1)) kd) (12 + (d 1)) 0) (21 + (d 1)) 0))))] 2 rfl (by omega) (by decide) dX8_readsContact_86 rfl rfl ?_
        refine j_aload_n (pc' := 88) C dX8_readsContact_87 rfl 2 rfl ?_
        refine j_get (v := .ref aD) (pc' := 91) C KX8 0 9 rfl (by decide) fl_X8_16 rfl rfl dX8_readsContact_88 rfl ?_
        refine j_bipush (v := (nI 30)) (pc' := 93) C dX8_readsContact_91 rfl (by decide +kernel) ?_
        refine j_iload_n (pc' := 94) C dX8_readsContact_93 rfl 1 rfl ?_
        refine j_iadd (v := (nI (30 + (d 1)))) (pc' := 95) C dX8_readsContact_94 rfl (nI_add 30 (d 1)) ?_
        refine j_iload_n (pc' := 96) C dX8_readsContact_95 rfl 3 rfl ?_
        refine j_iconst (v := (nI 2)) (pc' := 97) C dX8_readsContact_96 rfl (by decide +kernel) ?_
        refine j_nc_ge (pc' := 100) C 113 dX8_readsContact_97 (by decide) rfl (by omega) (by omega) (fun c97 => ?_) (fun c97 => ?_)
        · refine j_bipush (v := (-9)) (pc' := 115) C dX8_readsContact_113 rfl (by decide +kernel) ?_
          refine j_top (nI 4294967287) (by decide +kernel) ?_
          refine j_nast (pc' := 116) C [(a0, .inr (8, [.int th, .ref aX, .int (nI n), .int (nI (tke x n p)), .int (nI (tko x n p)), .int (nI (skp x n p)), .int va, .int (nI (skp x n p)), .ref aT, .ref aD, .ref aS, .ref aU, .int um, .ref aK, .ref aI, .ref aL, .ref aE, .ref aF, .int sm, .ref aP, .ref aW, .int sn, .ref aB, .ref aM])), (aX, .inl (cyI, 100, .inl (nA x))), (aD, .inl (cyI, 42, .inl (nA (uN (uN (uN (uN d (3 + (d 1)) kd) (12 + (d 1)) 0) (21 + (d 1)) 0) (30 + (d 1)) 4294967287))))] 2 rfl (by omega) (by decide) dX8_readsContact_115 rfl rfl ?_
          refine j_aload_n (pc' := 117) C dX8_readsContact_116 rfl 2 rfl ?_
          refine j_get (v := .ref aD) (pc' := 120) C KX8 0 9 rfl (by decide) fl_X8_16 rfl rfl dX8_readsContact_117 rfl ?_
          refine j_iconst (v := (nI 1)) (pc' := 121) C dX8_readsContact_120 rfl (by decide +kernel) ?_
          refine j_dup2 (pc' := 122) C dX8_readsContact_121 rfl rfl rfl ?_
          refine j_nald (pc' := 123) C 2 rfl (by omega) (by decide) dX8_readsContact_122 rfl ?_
          refine j_iconst (v := (nI 1)) (pc' := 124) C dX8_readsContact_123 rfl (by decide +kernel) ?_
          refine j_iadd (v := (nI (((uN (uN (uN (uN d (3 + (d 1)) kd) (12 + (d 1)) 0) (21 + (d 1)) 0) (30 + (d 1)) 4294967287) 1) + 1))) (pc' := 125) C dX8_readsContact_124 rfl (nI_add ((uN (uN (uN (uN d (3 + (d 1)) kd) (12 + (d 1)) 0) (21 + (d 1)) 0) (30 + (d 1)) 4294967287) 1) 1) ?_
          refine j_nast (pc' := 126) C [(a0, .inr (8, [.int th, .ref aX, .int (nI n), .int (nI (tke x n p)), .int (nI (tko x n p)), .int (nI (skp x n p)), .int va, .int (nI (skp x n p)), .ref aT, .ref aD, .ref aS, .ref aU, .int um, .ref aK, .ref aI, .ref aL, .ref aE, .ref aF, .int sm, .ref aP, .ref aW, .int sn, .ref aB, .ref aM])), (aX, .inl (cyI, 100, .inl (nA x))), (aD, .inl (cyI, 42, .inl (nA (uN (uN (uN (uN (uN d (3 + (d 1)) kd) (12 + (d 1)) 0) (21 + (d 1)) 0) (30 + (d 1)) 4294967287) 1 (((uN (uN (uN (uN d (3 + (d 1)) kd) (12 + (d 1)) 0) (21 + (d 1)) 0) (30 + (d 1)) 4294967287) 1) + 1)))))] 2 rfl (by omega) (by decide) dX8_readsContact_125 rfl rfl ?_
          exact j_vret C hr hk hA dX8_readsContact_126 (⟨_, _, _, _, _, _, rfl, (fun k hk9 => by simp only [uN_far (show 3 + d 1 < 42 by omega) hk9, uN_far (show 12 + d 1 < 42 by omega) hk9, uN_far (show 21 + d 1 < 42 by omega) hk9, uN_far (show 30 + d 1 < 42 by omega) hk9, uN_far (show 1 < 42 by omega) hk9]), Or.inl ⟨_, by unfold rdC; rw [if_pos hb40], rfl, (skp_ge x (by omega)).2⟩⟩)
        · refine j_aload_n (pc' := 101) C dX8_readsContact_100 rfl 2 rfl ?_
          refine j_aload_n (pc' := 102) C dX8_readsContact_101 rfl 2 rfl ?_
          refine j_iconst (v := (nI 0)) (pc' := 103) C dX8_readsContact_102 rfl (by decide +kernel) ?_
          refine j_iconst (v := (nI 3)) (pc' := 104) C dX8_readsContact_103 rfl (by decide +kernel) ?_
          refine j_cVi (As := [.int (nI 0), .int (nI 3)]) (wr := [(aX, .inl (cyI, 100, .inl (nA x))), (aD, .inl (cyI, 42, .inl (nA (uN (uN (uN d (3 + (d 1)) kd) (12 + (d 1)) 0) (21 + (d 1)) 0))))]) (pc' := 107) C (c_X8_isNumber (a0 := a0) (th := th) (aX := aX) (ty := (nI n)) (sp := (nI (tke x n p))) (pl := (nI (skp x n p))) (va := va) (fa := (nI (skp x n p))) (aT := aT) (aD := aD) (aS := aS) (aU := aU) (um := um) (aK := aK) (aI := aI) (aL := aL) (aE := aE) (aF := aF) (sm := sm) (aP := aP) (aW := aW) (sn := sn) (aB := aB) (aM := aM) (x := x) (n := n) (p := p) (lo := 0) (hi := 3) (hv := hv) (hlo := by omega) (hhi := by omega)) Y_X8_isNumber (ml_X8_100) [0] [1, 2] rfl rfl rfl rfl (by decide) rfl rfl rfl dX8_readsContact_104 rfl rfl rfl (Nat.le_of_ble_eq_true rfl) ⟨Nat.le_of_ble_eq_true rfl, Nat.le_of_ble_eq_true rfl⟩ ⟨Nat.le_of_ble_eq_true rfl, Nat.le_of_ble_eq_true rfl⟩ ⟨rfl, rfl⟩ (fun r20 w1 hQ => ?_)
          obtain ⟨rfl, rfl⟩ := hQ
          refine j_perm [(a0, .inr (8, [.int th, .ref aX, .int (nI n), .int (nI (tke x n p)), .int (nI (tko x n p)), .int (nI (skp x n p)), .int va, .int (nI (skp x n p)), .ref aT, .ref aD, .ref aS, .ref aU, .int um, .ref aK, .ref aI, .ref aL, .ref aE, .ref aF, .int sm, .ref aP, .ref aW, .int sn, .ref aB, .ref aM])), (aX, .inl (cyI, 100, .inl (nA x))), (aD, .inl (cyI, 42, .inl (nA (uN (uN (uN d (3 + (d 1)) kd) (12 + (d 1)) 0) (21 + (d 1)) 0))))] [2, 0, 1] rfl rfl (by decide) ?_
          refine j_cVi (As := [.int (bI (okN x n p 0 3))]) (wr := [(aX, .inl (cyI, 100, .inl (nA x))), (aD, .inl (cyI, 42, .inl (nA (uN (uN (uN d (3 + (d 1)) kd) (12 + (d 1)) 0) (21 + (d 1)) 0))))]) (pc' := 110) C (c_X8_takes_f (a0 := a0) (th := th) (aX := aX) (ty := (nI n)) (sp := (nI (tke x n p))) (tk := (nI (tko x n p))) (pl := (nI (skp x n p))) (va := va) (aT := aT) (aD := aD) (aS := aS) (aU := aU) (um := um) (aK := aK) (aI := aI) (aL := aL) (aE := aE) (aF := aF) (sm := sm) (aP := aP) (aW := aW) (sn := sn) (aB := aB) (aM := aM) (f := skp x n p) (b := okN x n p 0 3) (hf := by have := (skp_ge x (n := n) (p := p) hp).2; have := (skp_ge x (n := n) (p := tke x n p) (by omega)).2; omega)) Y_X8_takes (ml_X8_104) [0] [1, 2] rfl rfl rfl rfl (by decide) rfl rfl rfl dX8_readsContact_107 rfl rfl rfl (Nat.le_of_ble_eq_true rfl) ⟨Nat.le_of_ble_eq_true rfl, Nat.le_of_ble_eq_true rfl⟩ ⟨Nat.le_of_ble_eq_true rfl, Nat.le_of_ble_eq_true rfl⟩ ⟨rfl, rfl⟩ (fun r21 w1 hQ => ?_)
          obtain ⟨rfl, rfl⟩ := hQ
          refine j_perm [(a0, .inr (8, [.int th, .ref aX, .int (nI n), .int (nI (tke x n p)), .int (nI (tko x n p)), .int (nI (skp x n p)), .int va, .int (nI (skp x n p)), .ref aT, .ref aD, .ref aS, .ref aU, .int um, .ref aK, .ref aI, .ref aL, .ref aE, .ref aF, .int sm, .ref aP, .ref aW, .int sn, .ref aB, .ref aM])), (aX, .inl (cyI, 100, .inl (nA x))), (aD, .inl (cyI, 42, .inl (nA (uN (uN (uN d (3 + (d 1)) kd) (12 + (d 1)) 0) (21 + (d 1)) 0))))] [2, 0, 1] rfl rfl (by decide) ?_
          refine j_goto C 115 dX8_readsContact_110 (by decide) ?_
          refine j_nast (pc' := 116) C [(a0, .inr (8, [.int th, .ref aX, .int (nI n), .int (nI (tke x n p)), .int (nI (tko x n p)), .int (nI (skp x n p)), .int va, .int (nI (skp x n p)), .ref aT, .ref aD, .ref aS, .ref aU, .int um, .ref aK, .ref aI, .ref aL, .ref aE, .ref aF, .int sm, .ref aP, .ref aW, .int sn, .ref aB, .ref aM])), (aX, .inl (cyI, 100, .inl (nA x))), (aD, .inl (cyI, 42, .inl (nA (uN (uN (uN (uN d (3 + (d 1)) kd) (12 + (d 1)) 0) (21 + (d 1)) 0) (30 + (d 1)) 0))))] 2 rfl (by omega) (by decide) dX8_readsContact_115 rfl rfl ?_
          refine j_aload_n (pc' := 117) C dX8_readsContact_116 rfl 2 rfl ?_
          refine j_get (v := .ref aD) (pc' := 120) C KX8 0 9 rfl (by decide) fl_X8_16 rfl rfl dX8_readsContact_117 rfl ?_
          refine j_iconst (v := (nI 1)) (pc' := 121) C dX8_readsContact_120 rfl (by decide +kernel) ?_
          refine j_dup2 (pc' := 122) C dX8_readsContact_121 rfl rfl rfl ?_
          refine j_nald (pc' := 123) C 2 rfl (by omega) (by decide) dX8_readsContact_122 rfl ?_
          refine j_iconst (v := (nI 1)) (pc' := 124) C dX8_readsContact_123 rfl (by decide +kernel) ?_
          refine j_iadd (v := (nI (((uN (uN (uN (uN d (3 + (d 1)) kd) (12 + (d 1)) 0) (21 + (d 1)) 0) (30 + (d 1)) 0) 1) + 1))) (pc' := 125) C dX8_readsContact_124 rfl (nI_add ((uN (uN (uN (uN d (3 + (d 1)) kd) (12 + (d 1)) 0) (21 + (d 1)) 0) (30 + (d 1)) 0) 1) 1) ?_
          refine j_nast (pc' := 126) C [(a0, .inr (8, [.int th, .ref aX, .int (nI n), .int (nI (tke x n p)), .int (nI (tko x n p)), .int (nI (skp x n p)), .int va, .int (nI (skp x n p)), .ref aT, .ref aD, .ref aS, .ref aU, .int um, .ref aK, .ref aI, .ref aL, .ref aE, .ref aF, .int sm, .ref aP, .ref aW, .int sn, .ref aB, .ref aM])), (aX, .inl (cyI, 100, .inl (nA x))), (aD, .inl (cyI, 42, .inl (nA (uN (uN (uN (uN (uN d (3 + (d 1)) kd) (12 + (d 1)) 0) (21 + (d 1)) 0) (30 + (d 1)) 0) 1 (((uN (uN (uN (uN d (3 + (d 1)) kd) (12 + (d 1)) 0) (21 + (d 1)) 0) (30 + (d 1)) 0) 1) + 1)))))] 2 rfl (by omega) (by decide) dX8_readsContact_125 rfl rfl ?_
          exact j_vret C hr hk hA dX8_readsContact_126 (⟨_, _, _, _, _, _, rfl, (fun k hk9 => by simp only [uN_far (show 3 + d 1 < 42 by omega) hk9, uN_far (show 12 + d 1 < 42 by omega) hk9, uN_far (show 21 + d 1 < 42 by omega) hk9, uN_far (show 30 + d 1 < 42 by omega) hk9, uN_far (show 1 < 42 by omega) hk9]), Or.inl ⟨_, by unfold rdC; rw [if_pos hb40], rfl, (skp_ge x (by omega)).2⟩⟩)
      · refine j_iconst (v := (nI 1)) (pc' := 79) C dX8_readsContact_78 rfl (by decide +kernel) ?_
        refine j_goto C 83 dX8_readsContact_79 (by decide) ?_
        refine j_cVi (As := [.int (nI 1)]) (wr := [(aX, .inl (cyI, 100, .inl (nA x))), (aD, .inl (cyI, 42, .inl (nA (uN (uN d (3 + (d 1)) kd) (12 + (d 1)) 0))))]) (pc' := 86) C (c_X8_takes_f (a0 := a0) (th := th) (aX := aX) (ty := (nI n)) (sp := (nI (tke x n p))) (tk := (nI (tko x n p))) (pl := (nI (skp x n p))) (va := va) (aT := aT) (aD := aD) (aS := aS) (aU := aU) (um := um) (aK := aK) (aI := aI) (aL := aL) (aE := aE) (aF := aF) (sm := sm) (aP := aP) (aW := aW) (sn := sn) (aB := aB) (aM := aM) (f := skp x n p) (b := true) (hf := by have := (skp_ge x (n := n) (p := p) hp).2; have := (skp_ge x (n := n) (p := tke x n p) (by omega)).2; omega)) Y_X8_takes (ml_X8_104) [0] [1, 2] rfl rfl rfl rfl (by decide) rfl rfl rfl dX8_readsContact_83 rfl rfl rfl (Nat.le_of_ble_eq_true rfl) ⟨Nat.le_of_ble_eq_true rfl, Nat.le_of_ble_eq_true rfl⟩ ⟨Nat.le_of_ble_eq_true rfl, Nat.le_of_ble_eq_true rfl⟩ ⟨rfl, rfl⟩ (fun r22 w1 hQ => ?_)
        obtain ⟨rfl, rfl⟩ := hQ
        refine j_perm [(a0, .inr (8, [.int th, .ref aX, .int (nI n), .int (nI (tke x n p)), .int (nI (tko x n p)), .int (nI (skp x n p)), .int va, .int (nI (skp x n p)), .ref aT, .ref aD, .ref aS, .ref aU, .int um, .ref aK, .ref aI, .ref aL, .ref aE, .ref aF, .int sm, .ref aP, .ref aW, .int sn, .ref aB, .ref aM])), (aX, .inl (cyI, 100, .inl (nA x))), (aD, .inl (cyI, 42, .inl (nA (uN (uN d (3 + (d 1)) kd) (12 + (d 1)) 0))))] [2, 0, 1] rfl rfl (by decide) ?_
        refine j_nast (pc' := 87) C [(a0, .inr (8, [.int th, .ref aX, .int (nI n), .int (nI (tke x n p)), .int (nI (tko x n p)), .int (nI (skp x n p)), .int va, .int (nI (skp x n p)), .ref aT, .ref aD, .ref aS, .ref aU, .int um, .ref aK, .ref aI, .ref aL, .ref aE, .ref aF, .int sm, .ref aP, .ref aW, .int sn, .ref aB, .ref aM])), (aX, .inl (cyI, 100, .inl (nA x))), (aD, .inl (cyI, 42, .inl (nA (uN (uN (uN d (3 + (d 1)) kd) (12 + (d 1)) 0) (21 + (d 1)) 0))))] 2 rfl (by omega) (by decide) dX8_readsContact_86 rfl rfl ?_
        refine j_aload_n (pc' := 88) C dX8_readsContact_87 rfl 2 rfl ?_
        refine j_get (v := .ref aD) (pc' := 91) C KX8 0 9 rfl (by decide) fl_X8_16 rfl rfl dX8_readsContact_88 rfl ?_
        refine j_bipush (v := (nI 30)) (pc' := 93) C dX8_readsContact_91 rfl (by decide +kernel) ?_
        refine j_iload_n (pc' := 94) C dX8_readsContact_93 rfl 1 rfl ?_
        refine j_iadd (v := (nI (30 + (d 1)))) (pc' := 95) C dX8_readsContact_94 rfl (nI_add 30 (d 1)) ?_
        refine j_iload_n (pc' := 96) C dX8_readsContact_95 rfl 3 rfl ?_
        refine j_iconst (v := (nI 2)) (pc' := 97) C dX8_readsContact_96 rfl (by decide +kernel) ?_
        refine j_nc_ge (pc' := 100) C 113 dX8_readsContact_97 (by decide) rfl (by omega) (by omega) (fun c97 => ?_) (fun c97 => ?_)
        · refine j_bipush (v := (-9)) (pc' := 115) C dX8_readsContact_113 rfl (by decide +kernel) ?_
          refine j_top (nI 4294967287) (by decide +kernel) ?_
          refine j_nast (pc' := 116) C [(a0, .inr (8, [.int th, .ref aX, .int (nI n), .int (nI (tke x n p)), .int (nI (tko x n p)), .int (nI (skp x n p)), .int va, .int (nI (skp x n p)), .ref aT, .ref aD, .ref aS, .ref aU, .int um, .ref aK, .ref aI, .ref aL, .ref aE, .ref aF, .int sm, .ref aP, .ref aW, .int sn, .ref aB, .ref aM])), (aX, .inl (cyI, 100, .inl (nA x))), (aD, .inl (cyI, 42, .inl (nA (uN (uN (uN (uN d (3 + (d 1)) kd) (12 + (d 1)) 0) (21 + (d 1)) 0) (30 + (d 1)) 4294967287))))] 2 rfl (by omega) (by decide) dX8_readsContact_115 rfl rfl ?_
          refine j_aload_n (pc' := 117) C dX8_readsContact_116 rfl 2 rfl ?_
          refine j_get (v := .ref aD) (pc' := 120) C KX8 0 9 rfl (by decide) fl_X8_16 rfl rfl dX8_readsContact_117 rfl ?_
          refine j_iconst (v := (nI 1)) (pc' := 121) C dX8_readsContact_120 rfl (by decide +kernel) ?_
          refine j_dup2 (pc' := 122) C dX8_readsContact_121 rfl rfl rfl ?_
          refine j_nald (pc' := 123) C 2 rfl (by omega) (by decide) dX8_readsContact_122 rfl ?_
          refine j_iconst (v := (nI 1)) (pc' := 124) C dX8_readsContact_123 rfl (by decide +kernel) ?_
          refine j_iadd (v := (nI (((uN (uN (uN (uN d (3 + (d 1)) kd) (12 + (d 1)) 0) (21 + (d 1)) 0) (30 + (d 1)) 4294967287) 1) + 1))) (pc' := 125) C dX8_readsContact_124 rfl (nI_add ((uN (uN (uN (uN d (3 + (d 1)) kd) (12 + (d 1)) 0) (21 + (d 1)) 0) (30 + (d 1)) 4294967287) 1) 1) ?_
          refine j_nast (pc' := 126) C [(a0, .inr (8, [.int th, .ref aX, .int (nI n), .int (nI (tke x n p)), .int (nI (tko x n p)), .int (nI (skp x n p)), .int va, .int (nI (skp x n p)), .ref aT, .ref aD, .ref aS, .ref aU, .int um, .ref aK, .ref aI, .ref aL, .ref aE, .ref aF, .int sm, .ref aP, .ref aW, .int sn, .ref aB, .ref aM])), (aX, .inl (cyI, 100, .inl (nA x))), (aD, .inl (cyI, 42, .inl (nA (uN (uN (uN (uN (uN d (3 + (d 1)) kd) (12 + (d 1)) 0) (21 + (d 1)) 0) (30 + (d 1)) 4294967287) 1 (((uN (uN (uN (uN d (3 + (d 1)) kd) (12 + (d 1)) 0) (21 + (d 1)) 0) (30 + (d 1)) 4294967287) 1) + 1)))))] 2 rfl (by omega) (by decide) dX8_readsContact_125 rfl rfl ?_
          exact j_vret C hr hk hA dX8_readsContact_126 (⟨_, _, _, _, _, _, rfl, (fun k hk9 => by simp only [uN_far (show 3 + d 1 < 42 by omega) hk9, uN_far (show 12 + d 1 < 42 by omega) hk9, uN_far (show 21 + d 1 < 42 by omega) hk9, uN_far (show 30 + d 1 < 42 by omega) hk9, uN_far (show 1 < 42 by omega) hk9]), Or.inl ⟨_, by unfold rdC; rw [if_pos hb40], rfl, (skp_ge x (by omega)).2⟩⟩)
        · refine j_aload_n (pc' := 101) C dX8_readsContact_100 rfl 2 rfl ?_
          refine j_aload_n (pc' := 102) C dX8_readsContact_101 rfl 2 rfl ?_
          refine j_iconst (v := (nI 0)) (pc' := 103) C dX8_readsContact_102 rfl (by decide +kernel) ?_
          refine j_iconst (v := (nI 3)) (pc' := 104) C dX8_readsContact_103 rfl (by decide +kernel) ?_
          refine j_cVi (As := [.int (nI 0), .int (nI 3)]) (wr := [(aX, .inl (cyI, 100, .inl (nA x))), (aD, .inl (cyI, 42, .inl (nA (uN (uN (uN d (3 + (d 1)) kd) (12 + (d 1)) 0) (21 + (d 1)) 0))))]) (pc' := 107) C (c_X8_isNumber (a0 := a0) (th := th) (aX := aX) (ty := (nI n)) (sp := (nI (tke x n p))) (pl := (nI (skp x n p))) (va := va) (fa := (nI (skp x n p))) (aT := aT) (aD := aD) (aS := aS) (aU := aU) (um := um) (aK := aK) (aI := aI) (aL := aL) (aE := aE) (aF := aF) (sm := sm) (aP := aP) (aW := aW) (sn := sn) (aB := aB) (aM := aM) (x := x) (n := n) (p := p) (lo := 0) (hi := 3) (hv := hv) (hlo := by omega) (hhi := by omega)) Y_X8_isNumber (ml_X8_100) [0] [1, 2] rfl rfl rfl rfl (by decide) rfl rfl rfl dX8_readsContact_104 rfl rfl rfl (Nat.le_of_ble_eq_true rfl) ⟨Nat.le_of_ble_eq_true rfl, Nat.le_of_ble_eq_true rfl⟩ ⟨Nat.le_of_ble_eq_true rfl, Nat.le_of_ble_eq_true rfl⟩ ⟨rfl, rfl⟩ (fun r23 w1 hQ => ?_)
          obtain ⟨rfl, rfl⟩ := hQ
          refine j_perm [(a0, .inr (8, [.int th, .ref aX, .int (nI n), .int (nI (tke x n p)), .int (nI (tko x n p)), .int (nI (skp x n p)), .int va, .int (nI (skp x n p)), .ref aT, .ref aD, .ref aS, .ref aU, .int um, .ref aK, .ref aI, .ref aL, .ref aE, .ref aF, .int sm, .ref aP, .ref aW, .int sn, .ref aB, .ref aM])), (aX, .inl (cyI, 100, .inl (nA x))), (aD, .inl (cyI, 42, .inl (nA (uN (uN (uN d (3 + (d 1)) kd) (12 + (d 1)) 0) (21 + (d 1)) 0))))] [2, 0, 1] rfl rfl (by decide) ?_
          refine j_cVi (As := [.int (bI (okN x n p 0 3))]) (wr := [(aX, .inl (cyI, 100, .inl (nA x))), (aD, .inl (cyI, 42, .inl (nA (uN (uN (uN d (3 + (d 1)) kd) (12 + (d 1)) 0) (21 + (d 1)) 0))))]) (pc' := 110) C (c_X8_takes_f (a0 := a0) (th := th) (aX := aX) (ty := (nI n)) (sp := (nI (tke x n p))) (tk := (nI (tko x n p))) (pl := (nI (skp x n p))) (va := va) (aT := aT) (aD := aD) (aS := aS) (aU := aU) (um := um) (aK := aK) (aI := aI) (aL := aL) (aE := aE) (aF := aF) (sm := sm) (aP := aP) (aW := aW) (sn := sn) (aB := aB) (aM := aM) (f := skp x n p) (b := okN x n p 0 3) (hf := by have := (skp_ge x (n := n) (p := p) hp).2; have := (skp_ge x (n := n) (p := tke x n p) (by omega)).2; omega)) Y_X8_takes (ml_X8_104) [0] [1, 2] rfl rfl rfl rfl (by decide) rfl rfl rfl dX8_readsContact_107 rfl rfl rfl (Nat.le_of_ble_eq_true rfl) ⟨Nat.le_of_ble_eq_true rfl, Nat.le_of_ble_eq_true rfl⟩ ⟨Nat.le_of_ble_eq_true rfl, Nat.le_of_ble_eq_true rfl⟩ ⟨rfl, rfl⟩ (fun r24 w1 hQ => ?_)
          obtain ⟨rfl, rfl⟩ := hQ
          refine j_perm [(a0, .inr (8, [.int th, .ref aX, .int (nI n), .int (nI (tke x n p)), .int (nI (tko x n p)), .int (nI (skp x n p)), .int va, .int (nI (skp x n p)), .ref aT, .ref aD, .ref aS, .ref aU, .int um, .ref aK, .ref aI, .ref aL, .ref aE, .ref aF, .int sm, .ref aP, .ref aW, .int sn, .ref aB, .ref aM])), (aX, .inl (cyI, 100, .inl (nA x))), (aD, .inl (cyI, 42, .inl (nA (uN (uN (uN d (3 + (d 1)) kd) (12 + (d 1)) 0) (21 + (d 1)) 0))))] [2, 0, 1] rfl rfl (by decide) ?_
          refine j_goto C 115 dX8_readsContact_110 (by decide) ?_
          refine j_nast (pc' := 116) C [(a0, .inr (8, [.int th, .ref aX, .int (nI n), .int (nI (tke x n p)), .int (nI (tko x n p)), .int (nI (skp x n p)), .int va, .int (nI (skp x n p)), .ref aT, .ref aD, .ref aS, .ref aU, .int um, .ref aK, .ref aI, .ref aL, .ref aE, .ref aF, .int sm, .ref aP, .ref aW, .int sn, .ref aB, .ref aM])), (aX, .inl (cyI, 100, .inl (nA x))), (aD, .inl (cyI, 42, .inl (nA (uN (uN (uN (uN d (3 + (d 1)) kd) (12 + (d 1)) 0) (21 + (d 1)) 0) (30 + (d 1)) 0))))] 2 rfl (by omega) (by decide) dX8_readsContact_115 rfl rfl ?_
          refine j_aload_n (pc' := 117) C dX8_readsContact_116 rfl 2 rfl ?_
          refine j_get (v := .ref aD) (pc' := 120) C KX8 0 9 rfl (by decide) fl_X8_16 rfl rfl dX8_readsContact_117 rfl ?_
          refine j_iconst (v := (nI 1)) (pc' := 121) C dX8_readsContact_120 rfl (by decide +kernel) ?_
          refine j_dup2 (pc' := 122) C dX8_readsContact_121 rfl rfl rfl ?_
          refine j_nald (pc' := 123) C 2 rfl (by omega) (by decide) dX8_readsContact_122 rfl ?_
          refine j_iconst (v := (nI 1)) (pc' := 124) C dX8_readsContact_123 rfl (by decide +kernel) ?_
          refine j_iadd (v := (nI (((uN (uN (uN (uN d (3 + (d 1)) kd) (12 + (d 1)) 0) (21 + (d 1)) 0) (30 + (d 1)) 0) 1) + 1))) (pc' := 125) C dX8_readsContact_124 rfl (nI_add ((uN (uN (uN (uN d (3 + (d 1)) kd) (12 + (d 1)) 0) (21 + (d 1)) 0) (30 + (d 1)) 0) 1) 1) ?_
          refine j_nast (pc' := 126) C [(a0, .inr (8, [.int th, .ref aX, .int (nI n), .int (nI (tke x n p)), .int (nI (tko x n p)), .int (nI (skp x n p)), .int va, .int (nI (skp x n p)), .ref aT, .ref aD, .ref aS, .ref aU, .int um, .ref aK, .ref aI, .ref aL, .ref aE, .ref aF, .int sm, .ref aP, .ref aW, .int sn, .ref aB, .ref aM])), (aX, .inl (cyI, 100, .inl (nA x))), (aD, .inl (cyI, 42, .inl (nA (uN (uN (uN (uN (uN d (3 + (d 1)) kd) (12 + (d 1)) 0) (21 + (d 1)) 0) (30 + (d 1)) 0) 1 (((uN (uN (uN (uN d (3 + (d 1)) kd) (12 + (d 1)) 0) (21 + (d 1)) 0) (30 + (d 1)) 0) 1) + 1)))))] 2 rfl (by omega) (by decide) dX8_readsContact_125 rfl rfl ?_
          exact j_vret C hr hk hA dX8_readsContact_126 (⟨_, _, _, _, _, _, rfl, (fun k hk9 => by simp only [uN_far (show 3 + d 1 < 42 by omega) hk9, uN_far (show 12 + d 1 < 42 by omega) hk9, uN_far (show 21 + d 1 < 42 by omega) hk9, uN_far (show 30 + d 1 < 42 by omega) hk9, uN_far (show 1 < 42 by omega) hk9]), Or.inl ⟨_, by unfold rdC; rw [if_pos hb40], rfl, (skp_ge x (by omega)).2⟩⟩)

set_option maxHeartbeats 4000000 in
set_option maxRecDepth 100000 in
theorem c_X8_readsItem {lch : Launch} {dG : va_G} {cyI cyZ cyO : ClassId} (a0 : Nat) (th : Int32) (aX : Nat) (va : Int32) (aT : Nat) (aD : Nat) (aS : Nat) (aU : Nat) (um : Int32) (aK : Nat) (aI : Nat) (aL : Nat) (aE : Nat) (aF : Nat) (sm : Int32) (aP : Nat) (aW : Nat) (sn : Int32) (aB : Nat) (aM : Nat) (x : Nat → Nat) (d : Nat → Nat) (n : Nat) (p : Nat) (v : Nat) (hn : n ≤ 100) (hx : ∀ i, i < n → x i < 256) (hp : p ≤ n) (hT : WT d) (hv2 : v < 256) (hv : VV x n p va) (hm : (v = 108 → d 2 < 3) ∧ (v ≠ 108 → v ≠ 110 → d 1 < 9)) : Kv lch yX8_readsItem cX8_readsItem 2 (rmk 5) dG (cyI, cyZ, cyO) [.ref a0, .int (nI v)] [(a0, .inr (8, [.int th, .ref aX, .int (nI n), .int (nI (tke x n p)), .int (nI (tko x n p)), .int (nI (skp x n p)), .int va, .int (-1), .ref aT, .ref aD, .ref aS, .ref aU, .int um, .ref aK, .ref aI, .ref aL, .ref aE, .ref aF, .int sm, .ref aP, .ref aW, .int sn, .ref aB, .ref aM])), (aX, .inl (cyI, 100, .inl (nA x))), (aD, .inl (cyI, 42, .inl (nA d)))] (fun w1 => ∃ (sp1 : Int32), ∃ (tk1 : Int32), ∃ (pl1 : Int32), ∃ (va1 : Int32), ∃ (fa1 : Int32), ∃ (d1 : Nat → Nat), w1 = [(a0, .inr (8, [.int th, .ref aX, .int (nI n), .int sp1, .int tk1, .int pl1, .int va1, .int fa1, .ref aT, .ref aD, .ref aS, .ref aU, .int um, .ref aK, .ref aI, .ref aL, .ref aE, .ref aF, .int sm, .ref aP, .ref aW, .int sn, .ref aB, .ref aM])), (aX, .inl (cyI, 100, .inl (nA x))), (aD, .inl (cyI, 42, .inl (nA d1)))] ∧ RF x n (rdB x n v p d) d sp1 tk1 pl1 va1 fa1 d1) := by
  have h1 := hT.n
  have hg1 := tke_ge x hp
  refine Kv.of (own := RX8) rfl (by decide) (Nat.le_of_ble_eq_true rfl) (fun p0 e0 s0 m0 ar0 be0 me0 cd0 A0 C hr hk hnm hA => ?_)
  refine j_lsub [(0, .ref a0), (1, .int (nI v))] [0, 1] rfl ?_
  refine j_iload_n (pc' := 1) C dX8_readsItem_0 rfl 1 rfl ?_
  refine j_bipush (v := (nI 110)) (pc' := 3) C dX8_readsItem_1 rfl (by decide +kernel) ?_
  refine j_nc_ne (pc' := 6) C 26 dX8_readsItem_3 (by decide) rfl (by omega) (by omega) (fun c3 => ?_) (fun c3 => ?_)
  · refine j_iload_n (pc' := 27) C dX8_readsItem_26 rfl 1 rfl ?_
    refine j_bipush (v := (nI 108)) (pc' := 29) C dX8_readsItem_27 rfl (by decide +kernel) ?_
    refine j_nc_ne (pc' := 32) C 95 dX8_readsItem_29 (by decide) rfl (by omega) (by omega) (fun c29 => ?_) (fun c29 => ?_)
    · have hm2 := hm.2 c29 c3
      refine j_aload_n (pc' := 96) C dX8_readsItem_95 rfl 0 rfl ?_
      refine j_iload_n (pc' := 97) C dX8_readsItem_96 rfl 1 rfl ?_
      refine j_bipush (v := (nI 111)) (pc' := 99) C dX8_readsItem_97 rfl (by decide +kernel) ?_
      refine j_nc_ne (pc' := 102) C 106 dX8_readsItem_99 (by decide) rfl (by omega) (by omega) (fun c99 => ?_) (fun c99 => ?_)
      · refine j_iload_n (pc' := 107) C dX8_readsItem_106 rfl 1 rfl ?_
        refine j_bipush (v := (nI 99)) (pc' := 109) C dX8_readsItem_107 rfl (by decide +kernel) ?_
        refine j_nc_ne (pc' := 112) C 116 dX8_readsItem_109 (by decide) rfl (by omega) (by omega) (fun c109 => ?_) (fun c109 => ?_)
        · refine j_iload_n (pc' := 117) C dX8_readsItem_116 rfl 1 rfl ?_
          refine j_bipush (v := (nI 119)) (pc' := 119) C dX8_readsItem_117 rfl (by decide +kernel) ?_
          refine j_nc_ne (pc' := 122) C 126 dX8_readsItem_119 (by decide) rfl (by omega) (by omega) (fun c119 => ?_) (fun c119 => ?_)
          · refine j_iconst (v := (nI 3)) (pc' := 127) C dX8_readsItem_126 rfl (by decide +kernel) ?_
            refine j_top (nI (kdL v)) (by unfold kdL; rw [if_neg c99, if_neg c109, if_neg c119]) ?_
            refine j_cVv (As := [.int (nI (kdL v))]) (wr := []) (pc' := 130) C (c_X8_readsContact (a0 := a0) (th := th) (aX := aX) (va := va) (aT := aT) (aD := aD) (aS := aS) (aU := aU) (um := um) (aK := aK) (aI := aI) (aL := aL) (aE := aE) (aF := aF) (sm := sm) (aP := aP) (aW := aW) (sn := sn) (aB := aB) (aM := aM) (x := x) (d := d) (n := n) (p := p) (kd := kdL v) (hn := by first | assumption | omega) (hx := by first | assumption | omega) (hp := hp) (hT := by first | assumption | omega) (hc := hm2) (hkd := kdL_lt v) (hv := hv)) Y_X8_readsContact (ml_X8_111) [0, 1, 2] [] rfl rfl rfl rfl (by decide) rfl rfl rfl dX8_readsItem_127 rfl rfl rfl (Nat.le_of_ble_eq_true rfl) ⟨Nat.le_of_ble_eq_true rfl, Nat.le_of_ble_eq_true rfl⟩ ⟨Nat.le_of_ble_eq_true rfl, Nat.le_of_ble_eq_true rfl⟩ ⟨rfl, rfl⟩ (fun w1 hQ => ?_)
            obtain ⟨sp1_1, tk1_1, pl1_1, va1_1, fa1_1, d1_1, rfl, hF127⟩ := hQ
            exact j_vret C hr hk hA dX8_readsItem_130 (⟨_, _, _, _, _, _, rfl, by unfold rdB; rw [if_neg c3, if_neg c29]; exact hF127⟩)
          · refine j_iconst (v := (nI 2)) (pc' := 123) C dX8_readsItem_122 rfl (by decide +kernel) ?_
            refine j_goto C 127 dX8_readsItem_123 (by decide) ?_
            refine j_top (nI (kdL v)) (by unfold kdL; rw [if_neg c99, if_neg c109, if_pos c119]) ?_
            refine j_cVv (As := [.int (nI (kdL v))]) (wr := []) (pc' := 130) C (c_X8_readsContact (a0 := a0) (th := th) (aX := aX) (va := va) (aT := aT) (aD := aD) (aS := aS) (aU := aU) (um := um) (aK := aK) (aI := aI) (aL := aL) (aE := aE) (aF := aF) (sm := sm) (aP := aP) (aW := aW) (sn := sn) (aB := aB) (aM := aM) (x := x) (d := d) (n := n) (p := p) (kd := kdL v) (hn := by first | assumption | omega) (hx := by first | assumption | omega) (hp := hp) (hT := by first | assumption | omega) (hc := hm2) (hkd := kdL_lt v) (hv := hv)) Y_X8_readsContact (ml_X8_111) [0, 1, 2] [] rfl rfl rfl rfl (by decide) rfl rfl rfl dX8_readsItem_127 rfl rfl rfl (Nat.le_of_ble_eq_true rfl) ⟨Nat.le_of_ble_eq_true rfl, Nat.le_of_ble_eq_true rfl⟩ ⟨Nat.le_of_ble_eq_true rfl, Nat.le_of_ble_eq_true rfl⟩ ⟨rfl, rfl⟩ (fun w1 hQ => ?_)
            obtain ⟨sp1_2, tk1_2, pl1_2, va1_2, fa1_2, d1_2, rfl, hF127⟩ := hQ
            exact j_vret C hr hk hA dX8_readsItem_130 (⟨_, _, _, _, _, _, rfl, by unfold rdB; rw [if_neg c3, if_neg c29]; exact hF127⟩)
        · refine j_iconst (v := (nI 1)) (pc' := 113) C dX8_readsItem_112 rfl (by decide +kernel) ?_
          refine j_goto C 127 dX8_readsItem_113 (by decide) ?_
          refine j_top (nI (kdL v)) (by unfold kdL; rw [if_neg c99, if_pos c109]) ?_
          refine j_cVv (As := [.int (nI (kdL v))]) (wr := []) (pc' := 130) C (c_X8_readsContact (a0 := a0) (th := th) (aX := aX) (va := va) (aT := aT) (aD := aD) (aS := aS) (aU := aU) (um := um) (aK := aK) (aI := aI) (aL := aL) (aE := aE) (aF := aF) (sm := sm) (aP := aP) (aW := aW) (sn := sn) (aB := aB) (aM := aM) (x := x) (d := d) (n := n) (p := p) (kd := kdL v) (hn := by first | assumption | omega) (hx := by first | assumption | omega) (hp := hp) (hT := by first | assumption | omega) (hc := hm2) (hkd := kdL_lt v) (hv := hv)) Y_X8_readsContact (ml_X8_111) [0, 1, 2] [] rfl rfl rfl rfl (by decide) rfl rfl rfl dX8_readsItem_127 rfl rfl rfl (Nat.le_of_ble_eq_true rfl) ⟨Nat.le_of_ble_eq_true rfl, Nat.le_of_ble_eq_true rfl⟩ ⟨Nat.le_of_ble_eq_true rfl, Nat.le_of_ble_eq_true rfl⟩ ⟨rfl, rfl⟩ (fun w1 hQ => ?_)
          obtain ⟨sp1_3, tk1_3, pl1_3, va1_3, fa1_3, d1_3, rfl, hF127⟩ := hQ
          exact j_vret C hr hk hA dX8_readsItem_130 (⟨_, _, _, _, _, _, rfl, by unfold rdB; rw [if_neg c3, if_neg c29]; exact hF127⟩)
      · refine j_iconst (v := (nI 0)) (pc' := 103) C dX8_readsItem_102 rfl (by decide +kernel) ?_
        refine j_goto C 127 dX8_readsItem_103 (by decide) ?_
        refine j_top (nI (kdL v)) (by unfold kdL; rw [if_pos c99]) ?_
        refine j_cVv (As := [.int (nI (kdL v))]) (wr := []) (pc' := 130) C (c_X8_readsContact (a0 := a0) (th := th) (aX := aX) (va := va) (aT := aT) (aD := aD) (aS := aS) (aU := aU) (um := um) (aK := aK) (aI := aI) (aL := aL) (aE := aE) (aF := aF) (sm := sm) (aP := aP) (aW := aW) (sn := sn) (aB := aB) (aM := aM) (x := x) (d := d) (n := n) (p := p) (kd := kdL v) (hn := by first | assumption | omega) (hx := by first | assumption | omega) (hp := hp) (hT := by first | assumption | omega) (hc := hm2) (hkd := kdL_lt v) (hv := hv)) Y_X8_readsContact (ml_X8_111) [0, 1, 2] [] rfl rfl rfl rfl (by decide) rfl rfl rfl dX8_readsItem_127 rfl rfl rfl (Nat.le_of_ble_eq_true rfl) ⟨Nat.le_of_ble_eq_true rfl, Nat.le_of_ble_eq_true rfl⟩ ⟨Nat.le_of_ble_eq_true rfl, Nat.le_of_ble_eq_true rfl⟩ ⟨rfl, rfl⟩ (fun w1 hQ => ?_)
        obtain ⟨sp1_4, tk1_4, pl1_4, va1_4, fa1_4, d1_4, rfl, hF127⟩ := hQ
        exact j_vret C hr hk hA dX8_readsItem_130 (⟨_, _, _, _, _, _, rfl, by unfold rdB; rw [if_neg c3, if_neg c29]; exact hF127⟩)
    · have hm1 := hm.1 c29
      refine j_aload_n (pc' := 33) C dX8_readsItem_32 rfl 0 rfl ?_
      refine j_get (v := .ref aD) (pc' := 36) C KX8 0 9 rfl (by decide) fl_X8_16 rfl rfl dX8_readsItem_33 rfl ?_
      refine j_bipush (v := (nI 39)) (pc' := 38) C dX8_readsItem_36 rfl (by decide +kernel) ?_
      refine j_aload_n (pc' := 39) C dX8_readsItem_38 rfl 0 rfl ?_
      refine j_get (v := .ref aD) (pc' := 42) C KX8 0 9 rfl (by decide) fl_X8_16 rfl rfl dX8_readsItem_39 rfl ?_
      refine j_iconst (v := (nI 2)) (pc' := 43) C dX8_readsItem_42 rfl (by decide +kernel) ?_
      refine j_nald (pc' := 44) C 2 rfl (by omega) (by decide) dX8_readsItem_43 rfl ?_
      refine j_iadd (v := (nI (39 + (d 2)))) (pc' := 45) C dX8_readsItem_44 rfl (nI_add 39 (d 2)) ?_
      refine j_aload_n (pc' := 46) C dX8_readsItem_45 rfl 0 rfl ?_
      refine j_aload_n (pc' := 47) C dX8_readsItem_46 rfl 0 rfl ?_
      refine j_iconst (v := (nI 0)) (pc' := 48) C dX8_readsItem_47 rfl (by decide +kernel) ?_
      refine j_aload_n (pc' := 49) C dX8_readsItem_48 rfl 0 rfl ?_
      refine j_get (v := .ref aD) (pc' := 52) C KX8 0 9 rfl (by decide) fl_X8_16 rfl rfl dX8_readsItem_49 rfl ?_
      refine j_iconst (v := (nI 0)) (pc' := 53) C dX8_readsItem_52 rfl (by decide +kernel) ?_
      refine j_nald (pc' := 54) C 2 rfl (by omega) (by decide) dX8_readsItem_53 rfl ?_
      refine j_iconst (v := (nI 1)) (pc' := 55) C dX8_readsItem_54 rfl (by decide +kernel) ?_
      refine j_isub (v := (nI ((d 0) - 1))) (pc' := 56) C dX8_readsItem_55 rfl (pk_sub (by omega)) ?_
      refine j_cVi (As := [.int (nI 0), .int (nI ((d 0) - 1))]) (wr := [(aX, .inl (cyI, 100, .inl (nA x))), (aD, .inl (cyI, 42, .inl (nA d)))]) (pc' := 59) C (c_X8_isNumber (a0 := a0) (th := th) (aX := aX) (ty := (nI n)) (sp := (nI (tke x n p))) (pl := (nI (skp x n p))) (va := va) (fa := (-1)) (aT := aT) (aD := aD) (aS := aS) (aU := aU) (um := um) (aK := aK) (aI := aI) (aL := aL) (aE := aE) (aF := aF) (sm := sm) (aP := aP) (aW := aW) (sn := sn) (aB := aB) (aM := aM) (x := x) (n := n) (p := p) (lo := 0) (hi := (d 0) - 1) (hv := hv) (hlo := by omega) (hhi := by omega)) Y_X8_isNumber (ml_X8_100) [0] [1, 2] rfl rfl rfl rfl (by decide) rfl rfl rfl dX8_readsItem_56 rfl rfl rfl (Nat.le_of_ble_eq_true rfl) ⟨Nat.le_of_ble_eq_true rfl, Nat.le_of_ble_eq_true rfl⟩ ⟨Nat.le_of_ble_eq_true rfl, Nat.le_of_ble_eq_true rfl⟩ ⟨rfl, rfl⟩ (fun r5 w1 hQ => ?_)
      obtain ⟨rfl, rfl⟩ := hQ
      refine j_perm [(a0, .inr (8, [.int th, .ref aX, .int (nI n), .int (nI (tke x n p)), .int (nI (tko x n p)), .int (nI (skp x n p)), .int va, .int (-1), .ref aT, .ref aD, .ref aS, .ref aU, .int um, .ref aK, .ref aI, .ref aL, .ref aE, .ref aF, .int sm, .ref aP, .ref aW, .int sn, .ref aB, .ref aM])), (aX, .inl (cyI, 100, .inl (nA x))), (aD, .inl (cyI, 42, .inl (nA d)))] [2, 0, 1] rfl rfl (by decide) ?_
      refine j_b_eq (pc' := 62) C 77 dX8_readsItem_59 (by decide) rfl (fun c59 => ?_) (fun c59 => ?_)
      · refine j_iconst (v := (nI 0)) (pc' := 78) C dX8_readsItem_77 rfl (by decide +kernel) ?_
        refine j_cVi (As := [.int (nI 0)]) (wr := [(aD, .inl (cyI, 42, .inl (nA d)))]) (pc' := 81) C (c_X8_takes_n (a0 := a0) (th := th) (aX := aX) (va := va) (aT := aT) (aD := aD) (aS := aS) (aU := aU) (um := um) (aK := aK) (aI := aI) (aL := aL) (aE := aE) (aF := aF) (sm := sm) (aP := aP) (aW := aW) (sn := sn) (aB := aB) (aM := aM) (x := x) (n := n) (p := p) ) Y_X8_takes (ml_X8_104) [0, 1] [2] rfl rfl rfl rfl (by decide) rfl rfl rfl dX8_readsItem_78 rfl rfl rfl (Nat.le_of_ble_eq_true rfl) ⟨Nat.le_of_ble_eq_true rfl, Nat.le_of_ble_eq_true rfl⟩ ⟨Nat.le_of_ble_eq_true rfl, Nat.le_of_ble_eq_true rfl⟩ ⟨rfl, rfl⟩ (fun r6 w1 hQ => ?_)
        obtain ⟨rfl, rfl⟩ := hQ
        refine j_perm [(a0, .inr (8, [.int th, .ref aX, .int (nI n), .int (nI (tke x n p)), .int (nI (tko x n p)), .int (nI (skp x n p)), .int va, .int (nI (skp x n p)), .ref aT, .ref aD, .ref aS, .ref aU, .int um, .ref aK, .ref aI, .ref aL, .ref aE, .ref aF, .int sm, .ref aP, .ref aW, .int sn, .ref aB, .ref aM])), (aX, .inl (cyI, 100, .inl (nA x))), (aD, .inl (cyI, 42, .inl (nA d)))] [1, 2, 0] rfl rfl (by decide) ?_
        refine j_nast (pc' := 82) C [(a0, .inr (8, [.int th, .ref aX, .int (nI n), .int (nI (tke x n p)), .int (nI (tko x n p)), .int (nI (skp x n p)), .int va, .int (nI (skp x n p)), .ref aT, .ref aD, .ref aS, .ref aU, .int um, .ref aK, .ref aI, .ref aL, .ref aE, .ref aF, .int sm, .ref aP, .ref aW, .int sn, .ref aB, .ref aM])), (aX, .inl (cyI, 100, .inl (nA x))), (aD, .inl (cyI, 42, .inl (nA (uN d (39 + (d 2)) 0))))] 2 rfl (by omega) (by decide) dX8_readsItem_81 rfl rfl ?_
        refine j_aload_n (pc' := 83) C dX8_readsItem_82 rfl 0 rfl ?_
        refine j_get (v := .ref aD) (pc' := 86) C KX8 0 9 rfl (by decide) fl_X8_16 rfl rfl dX8_readsItem_83 rfl ?_
        refine j_iconst (v := (nI 2)) (pc' := 87) C dX8_readsItem_86 rfl (by decide +kernel) ?_
        refine j_dup2 (pc' := 88) C dX8_readsItem_87 rfl rfl rfl ?_
        refine j_nald (pc' := 89) C 2 rfl (by omega) (by decide) dX8_readsItem_88 rfl ?_
        refine j_iconst (v := (nI 1)) (pc' := 90) C dX8_readsItem_89 rfl (by decide +kernel) ?_
        refine j_iadd (v := (nI (((uN d (39 + (d 2)) 0) 2) + 1))) (pc' := 91) C dX8_readsItem_90 rfl (nI_add ((uN d (39 + (d 2)) 0) 2) 1) ?_
        refine j_nast (pc' := 92) C [(a0, .inr (8, [.int th, .ref aX, .int (nI n), .int (nI (tke x n p)), .int (nI (tko x n p)), .int (nI (skp x n p)), .int va, .int (nI (skp x n p)), .ref aT, .ref aD, .ref aS, .ref aU, .int um, .ref aK, .ref aI, .ref aL, .ref aE, .ref aF, .int sm, .ref aP, .ref aW, .int sn, .ref aB, .ref aM])), (aX, .inl (cyI, 100, .inl (nA x))), (aD, .inl (cyI, 42, .inl (nA (uN (uN d (39 + (d 2)) 0) 2 (((uN d (39 + (d 2)) 0) 2) + 1)))))] 2 rfl (by omega) (by decide) dX8_readsItem_91 rfl rfl ?_
        refine j_goto C 130 dX8_readsItem_92 (by decide) ?_
        exact j_vret C hr hk hA dX8_readsItem_130 (⟨_, _, _, _, _, _, rfl, (fun k hk9 => by simp only [uN_far (show 39 + d 2 < 42 by omega) hk9, uN_far (show 2 < 42 by omega) hk9]), Or.inl ⟨_, by unfold rdB; rw [if_neg c3, if_pos c29, if_pos (by rw [c59]; rfl)], rfl, (skp_ge x hp).2⟩⟩)
      · have hw59 := okN_t c59
        have hv59 := hv.1 hw59.1
        refine j_aload_n (pc' := 63) C dX8_readsItem_62 rfl 0 rfl ?_
        refine j_aload_n (pc' := 64) C dX8_readsItem_63 rfl 0 rfl ?_
        refine j_get (v := .int va) (pc' := 67) C KX8 0 6 rfl (by decide) fl_X8_83 rfl rfl dX8_readsItem_64 rfl ?_
        refine j_top (nI (tkv x n p - 48)) (hv59) ?_
        refine j_cVi (As := [.int (nI (tkv x n p - 48))]) (wr := [(aX, .inl (cyI, 100, .inl (nA x)))]) (pc' := 70) C (c_X8_isFreeNode (a0 := a0) (th := th) (aX := aX) (ty := (nI n)) (sp := (nI (tke x n p))) (tk := (nI (tko x n p))) (pl := (nI (skp x n p))) (va := va) (fa := (-1)) (aT := aT) (aD := aD) (aS := aS) (aU := aU) (um := um) (aK := aK) (aI := aI) (aL := aL) (aE := aE) (aF := aF) (sm := sm) (aP := aP) (aW := aW) (sn := sn) (aB := aB) (aM := aM) (d := d) (u := tkv x n p - 48) (hT := hT) (hu := by omega)) Y_X8_isFreeNode (ml_X8_108) [0, 2] [1] rfl rfl rfl rfl (by decide) rfl rfl rfl dX8_readsItem_67 rfl rfl rfl (Nat.le_of_ble_eq_true rfl) ⟨Nat.le_of_ble_eq_true rfl, Nat.le_of_ble_eq_true rfl⟩ ⟨Nat.le_of_ble_eq_true rfl, Nat.le_of_ble_eq_true rfl⟩ ⟨rfl, rfl⟩ (fun r7 w1 hQ => ?_)
        obtain ⟨rfl, rfl⟩ := hQ
        refine j_perm [(a0, .inr (8, [.int th, .ref aX, .int (nI n), .int (nI (tke x n p)), .int (nI (tko x n p)), .int (nI (skp x n p)), .int va, .int (-1), .ref aT, .ref aD, .ref aS, .ref aU, .int um, .ref aK, .ref aI, .ref aL, .ref aE, .ref aF, .int sm, .ref aP, .ref aW, .int sn, .ref aB, .ref aM])), (aX, .inl (cyI, 100, .inl (nA x))), (aD, .inl (cyI, 42, .inl (nA d)))] [1, 0, 2] rfl rfl (by decide) ?_
        refine j_b_eq (pc' := 73) C 77 dX8_readsItem_70 (by decide) rfl (fun c70 => ?_) (fun c70 => ?_)
        · refine j_iconst (v := (nI 0)) (pc' := 78) C dX8_readsItem_77 rfl (by decide +kernel) ?_
          refine j_cVi (As := [.int (nI 0)]) (wr := [(aD, .inl (cyI, 42, .inl (nA d)))]) (pc' := 81) C (c_X8_takes_n (a0 := a0) (th := th) (aX := aX) (va := va) (aT := aT) (aD := aD) (aS := aS) (aU := aU) (um := um) (aK := aK) (aI := aI) (aL := aL) (aE := aE) (aF := aF) (sm := sm) (aP := aP) (aW := aW) (sn := sn) (aB := aB) (aM := aM) (x := x) (n := n) (p := p) ) Y_X8_takes (ml_X8_104) [0, 1] [2] rfl rfl rfl rfl (by decide) rfl rfl rfl dX8_readsItem_78 rfl rfl rfl (Nat.le_of_ble_eq_true rfl) ⟨Nat.le_of_ble_eq_true rfl, Nat.le_of_ble_eq_true rfl⟩ ⟨Nat.le_of_ble_eq_true rfl, Nat.le_of_ble_eq_true rfl⟩ ⟨rfl, rfl⟩ (fun r8 w1 hQ => ?_)
          obtain ⟨rfl, rfl⟩ := hQ
          refine j_perm [(a0, .inr (8, [.int th, .ref aX, .int (nI n), .int (nI (tke x n p)), .int (nI (tko x n p)), .int (nI (skp x n p)), .int va, .int (nI (skp x n p)), .ref aT, .ref aD, .ref aS, .ref aU, .int um, .ref aK, .ref aI, .ref aL, .ref aE, .ref aF, .int sm, .ref aP, .ref aW, .int sn, .ref aB, .ref aM])), (aX, .inl (cyI, 100, .inl (nA x))), (aD, .inl (cyI, 42, .inl (nA d)))] [1, 2, 0] rfl rfl (by decide) ?_
          refine j_nast (pc' := 82) C [(a0, .inr (8, [.int th, .ref aX, .int (nI n), .int (nI (tke x n p)), .int (nI (tko x n p)), .int (nI (skp x n p)), .int va, .int (nI (skp x n p)), .ref aT, .ref aD, .ref aS, .ref aU, .int um, .ref aK, .ref aI, .ref aL, .ref aE, .ref aF, .int sm, .ref aP, .ref aW, .int sn, .ref aB, .ref aM])), (aX, .inl (cyI, 100, .inl (nA x))), (aD, .inl (cyI, 42, .inl (nA (uN d (39 + (d 2)) 0))))] 2 rfl (by omega) (by decide) dX8_readsItem_81 rfl rfl ?_
          refine j_aload_n (pc' := 83) C dX8_readsItem_82 rfl 0 rfl ?_
          refine j_get (v := .ref aD) (pc' := 86) C KX8 0 9 rfl (by decide) fl_X8_16 rfl rfl dX8_readsItem_83 rfl ?_
          refine j_iconst (v := (nI 2)) (pc' := 87) C dX8_readsItem_86 rfl (by decide +kernel) ?_
          refine j_dup2 (pc' := 88) C dX8_readsItem_87 rfl rfl rfl ?_
          refine j_nald (pc' := 89) C 2 rfl (by omega) (by decide) dX8_readsItem_88 rfl ?_
          refine j_iconst (v := (nI 1)) (pc' := 90) C dX8_readsItem_89 rfl (by decide +kernel) ?_
          refine j_iadd (v := (nI (((uN d (39 + (d 2)) 0) 2) + 1))) (pc' := 91) C dX8_readsItem_90 rfl (nI_add ((uN d (39 + (d 2)) 0) 2) 1) ?_
          refine j_nast (pc' := 92) C [(a0, .inr (8, [.int th, .ref aX, .int (nI n), .int (nI (tke x n p)), .int (nI (tko x n p)), .int (nI (skp x n p)), .int va, .int (nI (skp x n p)), .ref aT, .ref aD, .ref aS, .ref aU, .int um, .ref aK, .ref aI, .ref aL, .ref aE, .ref aF, .int sm, .ref aP, .ref aW, .int sn, .ref aB, .ref aM])), (aX, .inl (cyI, 100, .inl (nA x))), (aD, .inl (cyI, 42, .inl (nA (uN (uN d (39 + (d 2)) 0) 2 (((uN d (39 + (d 2)) 0) 2) + 1)))))] 2 rfl (by omega) (by decide) dX8_readsItem_91 rfl rfl ?_
          refine j_goto C 130 dX8_readsItem_92 (by decide) ?_
          exact j_vret C hr hk hA dX8_readsItem_130 (⟨_, _, _, _, _, _, rfl, (fun k hk9 => by simp only [uN_far (show 39 + d 2 < 42 by omega) hk9, uN_far (show 2 < 42 by omega) hk9]), Or.inl ⟨_, by unfold rdB; rw [if_neg c3, if_pos c29, if_pos (by rw [c59, c70]; rfl)], rfl, (skp_ge x hp).2⟩⟩)
        · refine j_iconst (v := (nI 1)) (pc' := 74) C dX8_readsItem_73 rfl (by decide +kernel) ?_
          refine j_goto C 78 dX8_readsItem_74 (by decide) ?_
          refine j_cVi (As := [.int (nI 1)]) (wr := [(aD, .inl (cyI, 42, .inl (nA d)))]) (pc' := 81) C (c_X8_takes_y (a0 := a0) (th := th) (aX := aX) (va := va) (aT := aT) (aD := aD) (aS := aS) (aU := aU) (um := um) (aK := aK) (aI := aI) (aL := aL) (aE := aE) (aF := aF) (sm := sm) (aP := aP) (aW := aW) (sn := sn) (aB := aB) (aM := aM) (x := x) (n := n) (p := p) (hn := by first | assumption | omega) (hx := by first | assumption | omega) (hp := hp)) Y_X8_takes (ml_X8_104) [0, 1] [2] rfl rfl rfl rfl (by decide) rfl rfl rfl dX8_readsItem_78 rfl rfl rfl (Nat.le_of_ble_eq_true rfl) ⟨Nat.le_of_ble_eq_true rfl, Nat.le_of_ble_eq_true rfl⟩ ⟨Nat.le_of_ble_eq_true rfl, Nat.le_of_ble_eq_true rfl⟩ ⟨rfl, rfl⟩ (fun r9 w1 hQ => ?_)
          obtain ⟨va1_9, rfl, rfl, hF78⟩ := hQ
          refine j_perm [(a0, .inr (8, [.int th, .ref aX, .int (nI n), .int (nI (tke x n (tke x n p))), .int (nI (tko x n (tke x n p))), .int (nI (skp x n (tke x n p))), .int va1_9, .int (-1), .ref aT, .ref aD, .ref aS, .ref aU, .int um, .ref aK, .ref aI, .ref aL, .ref aE, .ref aF, .int sm, .ref aP, .ref aW, .int sn, .ref aB, .ref aM])), (aX, .inl (cyI, 100, .inl (nA x))), (aD, .inl (cyI, 42, .inl (nA d)))] [1, 2, 0] rfl rfl (by decide) ?_
          refine j_top (nI (tkv x n p - 48)) (hv59) ?_
          refine j_nast (pc' := 82) C [(a0, .inr (8, [.int th, .ref aX, .int (nI n), .int (nI (tke x n (tke x n p))), .int (nI (tko x n (tke x n p))), .int (nI (skp x n (tke x n p))), .int va1_9, .int (-1), .ref aT, .ref aD, .ref aS, .ref aU, .int um, .ref aK, .ref aI, .ref aL, .ref aE, .ref aF, .int sm, .ref aP, .ref aW, .int sn, .ref aB, .ref aM])), (aX, .inl (cyI, 100, .inl (nA x))), (aD, .inl (cyI, 42, .inl (nA (uN d (39 + (d 2)) (tkv x n p - 48)))))] 2 rfl (by omega) (by decide) dX8_readsItem_81 rfl rfl ?_
          refine j_aload_n (pc' := 83) C dX8_readsItem_82 rfl 0 rfl ?_
          refine j_get (v := .ref aD) (pc' := 86) C KX8 0 9 rfl (by decide) fl_X8_16 rfl rfl dX8_readsItem_83 rfl ?_
          refine j_iconst (v := (nI 2)) (pc' := 87) C dX8_readsItem_86 rfl (by decide +kernel) ?_
          refine j_dup2 (pc' := 88) C dX8_readsItem_87 rfl rfl rfl ?_
          refine j_nald (pc' := 89) C 2 rfl (by omega) (by decide) dX8_readsItem_88 rfl ?_
          refine j_iconst (v := (nI 1)) (pc' := 90) C dX8_readsItem_89 rfl (by decide +kernel) ?_
          refine j_iadd (v := (nI (((uN d (39 + (d 2)) (tkv x n p - 48)) 2) + 1))) (pc' := 91) C dX8_readsItem_90 rfl (nI_add ((uN d (39 + (d 2)) (tkv x n p - 48)) 2) 1) ?_
          refine j_nast (pc' := 92) C [(a0, .inr (8, [.int th, .ref aX, .int (nI n), .int (nI (tke x n (tke x n p))), .int (nI (tko x n (tke x n p))), .int (nI (skp x n (tke x n p))), .int va1_9, .int (-1), .ref aT, .ref aD, .ref aS, .ref aU, .int um, .ref aK, .ref aI, .ref aL, .ref aE, .ref aF, .int sm, .ref aP, .ref aW, .int sn, .ref aB, .ref aM])), (aX, .inl (cyI, 100, .inl (nA x))), (aD, .inl (cyI, 42, .inl (nA (uN (uN d (39 + (d 2)) (tkv x n p - 48)) 2 (((uN d (39 + (d 2)) (tkv x n p - 48)) 2) + 1)))))] 2 rfl (by omega) (by decide) dX8_readsItem_91 rfl rfl ?_
          refine j_goto C 130 dX8_readsItem_92 (by decide) ?_
          exact j_vret C hr hk hA dX8_readsItem_130 (⟨_, _, _, _, _, _, rfl, (fun k hk9 => by simp only [uN_far (show 39 + d 2 < 42 by omega) hk9, uN_far (show 2 < 42 by omega) hk9]), Or.inr ⟨_, by unfold rdB; rw [if_neg c3, if_pos c29, if_neg (by rw [c59, c70]; decide), addL_eq], by omega, rfl, rfl, rfl, rfl, hF78⟩⟩)
  · refine j_aload_n (pc' := 7) C dX8_readsItem_6 rfl 0 rfl ?_
    refine j_get (v := .ref aD) (pc' := 10) C KX8 0 9 rfl (by decide) fl_X8_16 rfl rfl dX8_readsItem_7 rfl ?_
    refine j_iconst (v := (nI 0)) (pc' := 11) C dX8_readsItem_10 rfl (by decide +kernel) ?_
    refine j_aload_n (pc' := 12) C dX8_readsItem_11 rfl 0 rfl ?_
    refine j_aload_n (pc' := 13) C dX8_readsItem_12 rfl 0 rfl ?_
    refine j_iconst (v := (nI 2)) (pc' := 14) C dX8_readsItem_13 rfl (by decide +kernel) ?_
    refine j_bipush (v := (nI 7)) (pc' := 16) C dX8_readsItem_14 rfl (by decide +kernel) ?_
    refine j_cVi (As := [.int (nI 2), .int (nI 7)]) (wr := [(aX, .inl (cyI, 100, .inl (nA x))), (aD, .inl (cyI, 42, .inl (nA d)))]) (pc' := 19) C (c_X8_isNumber (a0 := a0) (th := th) (aX := aX) (ty := (nI n)) (sp := (nI (tke x n p))) (pl := (nI (skp x n p))) (va := va) (fa := (-1)) (aT := aT) (aD := aD) (aS := aS) (aU := aU) (um := um) (aK := aK) (aI := aI) (aL := aL) (aE := aE) (aF := aF) (sm := sm) (aP := aP) (aW := aW) (sn := sn) (aB := aB) (aM := aM) (x := x) (n := n) (p := p) (lo := 2) (hi := 7) (hv := hv) (hlo := by omega) (hhi := by omega)) Y_X8_isNumber (ml_X8_100) [0] [1, 2] rfl rfl rfl rfl (by decide) rfl rfl rfl dX8_readsItem_16 rfl rfl rfl (Nat.le_of_ble_eq_true rfl) ⟨Nat.le_of_ble_eq_true rfl, Nat.le_of_ble_eq_true rfl⟩ ⟨Nat.le_of_ble_eq_true rfl, Nat.le_of_ble_eq_true rfl⟩ ⟨rfl, rfl⟩ (fun r10 w1 hQ => ?_)
    obtain ⟨rfl, rfl⟩ := hQ
    refine j_perm [(a0, .inr (8, [.int th, .ref aX, .int (nI n), .int (nI (tke x n p)), .int (nI (tko x n p)), .int (nI (skp x n p)), .int va, .int (-1), .ref aT, .ref aD, .ref aS, .ref aU, .int um, .ref aK, .ref aI, .ref aL, .ref aE, .ref aF, .int sm, .ref aP, .ref aW, .int sn, .ref aB, .ref aM])), (aX, .inl (cyI, 100, .inl (nA x))), (aD, .inl (cyI, 42, .inl (nA d)))] [2, 0, 1] rfl rfl (by decide) ?_
    rcases Bool.eq_false_or_eq_true (okN x n p 2 7) with hb19 | hb19
    · refine j_top (bI true) (by rw [hb19]) ?_
      refine j_cVi (As := [.int (bI true)]) (wr := [(aD, .inl (cyI, 42, .inl (nA d)))]) (pc' := 22) C (c_X8_takes_y (a0 := a0) (th := th) (aX := aX) (va := va) (aT := aT) (aD := aD) (aS := aS) (aU := aU) (um := um) (aK := aK) (aI := aI) (aL := aL) (aE := aE) (aF := aF) (sm := sm) (aP := aP) (aW := aW) (sn := sn) (aB := aB) (aM := aM) (x := x) (n := n) (p := p) (hn := by first | assumption | omega) (hx := by first | assumption | omega) (hp := hp)) Y_X8_takes (ml_X8_104) [0, 1] [2] rfl rfl rfl rfl (by decide) rfl rfl rfl dX8_readsItem_19 rfl rfl rfl (Nat.le_of_ble_eq_true rfl) ⟨Nat.le_of_ble_eq_true rfl, Nat.le_of_ble_eq_true rfl⟩ ⟨Nat.le_of_ble_eq_true rfl, Nat.le_of_ble_eq_true rfl⟩ ⟨rfl, rfl⟩ (fun r11 w1 hQ => ?_)
      obtain ⟨va1_11, rfl, rfl, hF19⟩ := hQ
      refine j_perm [(a0, .inr (8, [.int th, .ref aX, .int (nI n), .int (nI (tke x n (tke x n p))), .int (nI (tko x n (tke x n p))), .int (nI (skp x n (tke x n p))), .int va1_11, .int (-1), .ref aT, .ref aD, .ref aS, .ref aU, .int um, .ref aK, .ref aI, .ref aL, .ref aE, .ref aF, .int sm, .ref aP, .ref aW, .int sn, .ref aB, .ref aM])), (aX, .inl (cyI, 100, .inl (nA x))), (aD, .inl (cyI, 42, .inl (nA d)))] [1, 2, 0] rfl rfl (by decide) ?_
      refine j_top (nI (tkv x n p - 48)) (hv.1 (okN_t hb19).1) ?_
      refine j_nast (pc' := 23) C [(a0, .inr (8, [.int th, .ref aX, .int (nI n), .int (nI (tke x n (tke x n p))), .int (nI (tko x n (tke x n p))), .int (nI (skp x n (tke x n p))), .int va1_11, .int (-1), .ref aT, .ref aD, .ref aS, .ref aU, .int um, .ref aK, .ref aI, .ref aL, .ref aE, .ref aF, .int sm, .ref aP, .ref aW, .int sn, .ref aB, .ref aM])), (aX, .inl (cyI, 100, .inl (nA x))), (aD, .inl (cyI, 42, .inl (nA (uN d 0 (tkv x n p - 48)))))] 2 rfl (by omega) (by decide) dX8_readsItem_22 rfl rfl ?_
      refine j_goto C 130 dX8_readsItem_23 (by decide) ?_
      exact j_vret C hr hk hA dX8_readsItem_130 (⟨_, _, _, _, _, _, rfl, (fun k hk9 => uN_far (by omega) hk9), Or.inr ⟨_, by unfold rdB; rw [if_pos c3, if_neg (by rw [hb19]; decide)], by omega, rfl, rfl, rfl, rfl, hF19⟩⟩)
    · refine j_top (bI false) (by rw [hb19]) ?_
      refine j_cVi (As := [.int (bI false)]) (wr := [(aD, .inl (cyI, 42, .inl (nA d)))]) (pc' := 22) C (c_X8_takes_n (a0 := a0) (th := th) (aX := aX) (va := va) (aT := aT) (aD := aD) (aS := aS) (aU := aU) (um := um) (aK := aK) (aI := aI) (aL := aL) (aE := aE) (aF := aF) (sm := sm) (aP := aP) (aW := aW) (sn := sn) (aB := aB) (aM := aM) (x := x) (n := n) (p := p) ) Y_X8_takes (ml_X8_104) [0, 1] [2] rfl rfl rfl rfl (by decide) rfl rfl rfl dX8_readsItem_19 rfl rfl rfl (Nat.le_of_ble_eq_true rfl) ⟨Nat.le_of_ble_eq_true rfl, Nat.le_of_ble_eq_true rfl⟩ ⟨Nat.le_of_ble_eq_true rfl, Nat.le_of_ble_eq_true rfl⟩ ⟨rfl, rfl⟩ (fun r12 w1 hQ => ?_)
      obtain ⟨rfl, rfl⟩ := hQ
      refine j_perm [(a0, .inr (8, [.int th, .ref aX, .int (nI n), .int (nI (tke x n p)), .int (nI (tko x n p)), .int (nI (skp x n p)), .int va, .int (nI (skp x n p)), .ref aT, .ref aD, .ref aS, .ref aU, .int um, .ref aK, .ref aI, .ref aL, .ref aE, .ref aF, .int sm, .ref aP, .ref aW, .int sn, .ref aB, .ref aM])), (aX, .inl (cyI, 100, .inl (nA x))), (aD, .inl (cyI, 42, .inl (nA d)))] [1, 2, 0] rfl rfl (by decide) ?_
      refine j_nast (pc' := 23) C [(a0, .inr (8, [.int th, .ref aX, .int (nI n), .int (nI (tke x n p)), .int (nI (tko x n p)), .int (nI (skp x n p)), .int va, .int (nI (skp x n p)), .ref aT, .ref aD, .ref aS, .ref aU, .int um, .ref aK, .ref aI, .ref aL, .ref aE, .ref aF, .int sm, .ref aP, .ref aW, .int sn, .ref aB, .ref aM])), (aX, .inl (cyI, 100, .inl (nA x))), (aD, .inl (cyI, 42, .inl (nA (uN d 0 0))))] 2 rfl (by omega) (by decide) dX8_readsItem_22 rfl rfl ?_
      refine j_goto C 130 dX8_readsItem_23 (by decide) ?_
      exact j_vret C hr hk hA dX8_readsItem_130 (⟨_, _, _, _, _, _, rfl, (fun k hk9 => uN_far (by omega) hk9), Or.inl ⟨_, by unfold rdB; rw [if_pos c3, if_pos hb19], rfl, (skp_ge x hp).2⟩⟩)

set_option maxHeartbeats 4000000 in
set_option maxRecDepth 100000 in
theorem c_X8_mayBegin {lch : Launch} {dG : va_G} {cyI cyZ cyO : ClassId} (a0 : Nat) (th : Int32) (aX : Nat) (ty : Int32) (sp : Int32) (tk : Int32) (pl : Int32) (fa : Int32) (aT : Nat) (aD : Nat) (aS : Nat) (aU : Nat) (um : Int32) (aK : Nat) (aI : Nat) (aL : Nat) (aE : Nat) (aF : Nat) (sm : Int32) (aP : Nat) (aW : Nat) (sn : Int32) (aB : Nat) (aM : Nat) (d : Nat → Nat) (v : Nat) (k : Nat) (hT : WT d) (hv2 : v < 256) (hk2 : k < 1000) : Ki lch yX8_mayBegin cX8_mayBegin 2 .boolean (rmk 1) dG (cyI, cyZ, cyO) [.ref a0, .int (nI k)] [(a0, .inr (8, [.int th, .ref aX, .int ty, .int sp, .int tk, .int pl, .int (nI v), .int fa, .ref aT, .ref aD, .ref aS, .ref aU, .int um, .ref aK, .ref aI, .ref aL, .ref aE, .ref aF, .int sm, .ref aP, .ref aW, .int sn, .ref aB, .ref aM])), (aD, .inl (cyI, 42, .inl (nA d)))] (fun r w1 => w1 = [(a0, .inr (8, [.int th, .ref aX, .int ty, .int sp, .int tk, .int pl, .int (nI v), .int fa, .ref aT, .ref aD, .ref aS, .ref aU, .int um, .ref aK, .ref aI, .ref aL, .ref aE, .ref aF, .int sm, .ref aP, .ref aW, .int sn, .ref aB, .ref aM])), (aD, .inl (cyI, 42, .inl (nA d)))] ∧ r = (bI (mayB k v d))) := by
  have h1 := hT.n
  refine Ki.of (own := RX8) rfl (by decide) (Nat.le_of_ble_eq_true rfl) (fun p0 e0 s0 m0 ar0 be0 me0 cd0 A0 C hr hk hnm hA => ?_)
  refine j_lsub [(0, .ref a0), (1, .int (nI k))] [0, 1] rfl ?_
  refine j_aload_n (pc' := 1) C dX8_mayBegin_0 rfl 0 rfl ?_
  refine j_get (v := .int (nI v)) (pc' := 4) C KX8 0 6 rfl (by decide) fl_X8_83 rfl rfl dX8_mayBegin_1 rfl ?_
  refine j_bipush (v := (nI 110)) (pc' := 6) C dX8_mayBegin_4 rfl (by decide +kernel) ?_
  refine j_nc_ne (pc' := 9) C 21 dX8_mayBegin_6 (by decide) rfl (by omega) (by omega) (fun c6 => ?_) (fun c6 => ?_)
  · refine j_aload_n (pc' := 22) C dX8_mayBegin_21 rfl 0 rfl ?_
    refine j_get (v := .int (nI v)) (pc' := 25) C KX8 0 6 rfl (by decide) fl_X8_83 rfl rfl dX8_mayBegin_22 rfl ?_
    refine j_bipush (v := (nI 108)) (pc' := 27) C dX8_mayBegin_25 rfl (by decide +kernel) ?_
    refine j_nc_ne (pc' := 30) C 48 dX8_mayBegin_27 (by decide) rfl (by omega) (by omega) (fun c27 => ?_) (fun c27 => ?_)
    · refine j_aload_n (pc' := 49) C dX8_mayBegin_48 rfl 0 rfl ?_
      refine j_get (v := .ref aD) (pc' := 52) C KX8 0 9 rfl (by decide) fl_X8_16 rfl rfl dX8_mayBegin_49 rfl ?_
      refine j_iconst (v := (nI 1)) (pc' := 53) C dX8_mayBegin_52 rfl (by decide +kernel) ?_
      refine j_nald (pc' := 54) C 1 rfl (by omega) (by decide) dX8_mayBegin_53 rfl ?_
      refine j_bipush (v := (nI 9)) (pc' := 56) C dX8_mayBegin_54 rfl (by decide +kernel) ?_
      refine j_nc_ge (pc' := 59) C 63 dX8_mayBegin_56 (by decide) rfl (by omega) (by omega) (fun c56 => ?_) (fun c56 => ?_)
      · refine j_iconst (v := (nI 0)) (pc' := 64) C dX8_mayBegin_63 rfl (by decide +kernel) ?_
        refine j_top (bI false) (by decide +kernel) ?_
        exact j_iret C hr hk hA dX8_mayBegin_64 (nrw_bI _) (⟨rfl, by unfold mayB; rw [if_neg c6, if_neg c27]; first | rw [decide_eq_true c56] | rw [decide_eq_false (by omega)]⟩)
      · refine j_iconst (v := (nI 1)) (pc' := 60) C dX8_mayBegin_59 rfl (by decide +kernel) ?_
        refine j_goto C 64 dX8_mayBegin_60 (by decide) ?_
        refine j_top (bI true) (by decide +kernel) ?_
        exact j_iret C hr hk hA dX8_mayBegin_64 (nrw_bI _) (⟨rfl, by unfold mayB; rw [if_neg c6, if_neg c27]; first | rw [decide_eq_true c56] | rw [decide_eq_false (by omega)]⟩)
    · refine j_aload_n (pc' := 31) C dX8_mayBegin_30 rfl 0 rfl ?_
      refine j_get (v := .ref aD) (pc' := 34) C KX8 0 9 rfl (by decide) fl_X8_16 rfl rfl dX8_mayBegin_31 rfl ?_
      refine j_iconst (v := (nI 2)) (pc' := 35) C dX8_mayBegin_34 rfl (by decide +kernel) ?_
      refine j_nald (pc' := 36) C 1 rfl (by omega) (by decide) dX8_mayBegin_35 rfl ?_
      refine j_iconst (v := (nI 3)) (pc' := 37) C dX8_mayBegin_36 rfl (by decide +kernel) ?_
      refine j_nc_ge (pc' := 40) C 44 dX8_mayBegin_37 (by decide) rfl (by omega) (by omega) (fun c37 => ?_) (fun c37 => ?_)
      · refine j_iconst (v := (nI 0)) (pc' := 45) C dX8_mayBegin_44 rfl (by decide +kernel) ?_
        refine j_goto C 64 dX8_mayBegin_45 (by decide) ?_
        refine j_top (bI false) (by decide +kernel) ?_
        exact j_iret C hr hk hA dX8_mayBegin_64 (nrw_bI _) (⟨rfl, by unfold mayB; rw [if_neg c6, if_pos c27]; first | rw [decide_eq_true c37] | rw [decide_eq_false (by omega)]⟩)
      · refine j_iconst (v := (nI 1)) (pc' := 41) C dX8_mayBegin_40 rfl (by decide +kernel) ?_
        refine j_goto C 64 dX8_mayBegin_41 (by decide) ?_
        refine j_top (bI true) (by decide +kernel) ?_
        exact j_iret C hr hk hA dX8_mayBegin_64 (nrw_bI _) (⟨rfl, by unfold mayB; rw [if_neg c6, if_pos c27]; first | rw [decide_eq_true c37] | rw [decide_eq_false (by omega)]⟩)
  · refine j_iload_n (pc' := 10) C dX8_mayBegin_9 rfl 1 rfl ?_
    refine j_nz_ne (pc' := 13) C 17 dX8_mayBegin_10 (by decide) rfl (by omega) (fun c10 => ?_) (fun c10 => ?_)
    · refine j_iconst (v := (nI 0)) (pc' := 18) C dX8_mayBegin_17 rfl (by decide +kernel) ?_
      refine j_goto C 64 dX8_mayBegin_18 (by decide) ?_
      refine j_top (bI false) (by decide +kernel) ?_
      exact j_iret C hr hk hA dX8_mayBegin_64 (nrw_bI _) (⟨rfl, by unfold mayB; rw [if_pos c6]; first | rw [decide_eq_true c10] | rw [decide_eq_false c10]⟩)
    · refine j_iconst (v := (nI 1)) (pc' := 14) C dX8_mayBegin_13 rfl (by decide +kernel) ?_
      refine j_goto C 64 dX8_mayBegin_14 (by decide) ?_
      refine j_top (bI true) (by decide +kernel) ?_
      exact j_iret C hr hk hA dX8_mayBegin_64 (nrw_bI _) (⟨rfl, by unfold mayB; rw [if_pos c6]; first | rw [decide_eq_true c10] | rw [decide_eq_false c10]⟩)
