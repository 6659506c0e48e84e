set_option maxHeartbeats 4000000 in
set_option maxRecDepth 100000 in
theorem c_X8_toBy {lch : Launch} {dG : va_G} {cyI cyZ cyO : ClassId} (a0 : Nat) (th : Int32) (aX : Nat) (ty : Int32) (sp : Int32) (tk : Int32) (pl : Int32) (va : Int32) (fa : Int32) (aT : Nat) (aD : Nat) (aS : Nat) (aU : Nat) (um : Int32) (aK : Nat) (aI : Nat) (aL : Nat) (aE : Nat) (aF : Nat) (sm : Int32) (aP : Nat) (aW : Nat) (sn : Int32) (aB : Nat) (aM : Nat) (t : Nat → Nat) (s : Nat → Nat) (c : Nat) (a : Nat) (hT : WT t) (hS : WS s) (hc : c < t 1) (ha : a < 7) : Ki lch yX8_toBy cX8_toBy 3 .int (rmk 3) dG (cyI, cyZ, cyO) [.ref a0, .int (nI c), .int (nI a)] [(a0, .inr (8, [.int th, .ref aX, .int ty, .int sp, .int tk, .int pl, .int va, .int fa, .ref aT, .ref aD, .ref aS, .ref aU, .int um, .ref aK, .ref aI, .ref aL, .ref aE, .ref aF, .int sm, .ref aP, .ref aW, .int sn, .ref aB, .ref aM])), (aT, .inl (cyI, 42, .inl (nA t))), (aS, .inl (cyI, 30, .inl (nA s)))] (fun r w1 => w1 = [(a0, .inr (8, [.int th, .ref aX, .int ty, .int sp, .int tk, .int pl, .int va, .int fa, .ref aT, .ref aD, .ref aS, .ref aU, .int um, .ref aK, .ref aI, .ref aL, .ref aE, .ref aF, .int sm, .ref aP, .ref aW, .int sn, .ref aB, .ref aM])), (aT, .inl (cyI, 42, .inl (nA t))), (aS, .inl (cyI, 30, .inl (nA s)))] ∧ ((toB t s c a = none ∧ r = -9) ∨ ∃ v, toB t s c a = some v ∧ r = nI v ∧ v < t 0)) := by
  have h1 := hT.n
  have h2 := hT.c hc
  refine Ki.of (own := RX8) rfl (by decide) (Nat.le_of_ble_eq_true rfl) (fun p0 e0 s0 m0 ar0 be0 me0 cd0 A0 C hr hk hnm hA => ?_)
  refine j_lsub [(0, .ref a0), (1, .int (nI c)), (2, .int (nI a))] [0, 1, 2] rfl ?_
  refine j_aload_n (pc' := 1) C dX8_toBy_0 rfl 0 rfl ?_
  refine j_get (v := .ref aT) (pc' := 4) C KX8 0 8 rfl (by decide) fl_X8_13 rfl rfl dX8_toBy_1 rfl ?_
  refine j_bipush (v := (nI 12)) (pc' := 6) C dX8_toBy_4 rfl (by decide +kernel) ?_
  refine j_iload_n (pc' := 7) C dX8_toBy_6 rfl 1 rfl ?_
  refine j_iadd (v := (nI (12 + c))) (pc' := 8) C dX8_toBy_7 rfl (nI_add 12 c) ?_
  refine j_nald (pc' := 9) C 1 rfl (by omega) (by decide) dX8_toBy_8 rfl ?_
  refine j_iload_n (pc' := 10) C dX8_toBy_9 rfl 2 rfl ?_
  refine j_nc_ne (pc' := 13) C 32 dX8_toBy_10 (by decide) rfl (by omega) (by omega) (fun c10 => ?_) (fun c10 => ?_)
  · refine j_aload_n (pc' := 33) C dX8_toBy_32 rfl 0 rfl ?_
    refine j_get (v := .ref aT) (pc' := 36) C KX8 0 8 rfl (by decide) fl_X8_13 rfl rfl dX8_toBy_33 rfl ?_
    refine j_bipush (v := (nI 21)) (pc' := 38) C dX8_toBy_36 rfl (by decide +kernel) ?_
    refine j_iload_n (pc' := 39) C dX8_toBy_38 rfl 1 rfl ?_
    refine j_iadd (v := (nI (21 + c))) (pc' := 40) C dX8_toBy_39 rfl (nI_add 21 c) ?_
    refine j_nald (pc' := 41) C 1 rfl (by omega) (by decide) dX8_toBy_40 rfl ?_
    refine j_iload_n (pc' := 42) C dX8_toBy_41 rfl 2 rfl ?_
    refine j_nc_ne (pc' := 45) C 66 dX8_toBy_42 (by decide) rfl (by omega) (by omega) (fun c42 => ?_) (fun c42 => ?_)
    · refine j_bipush (v := (-9)) (pc' := 68) C dX8_toBy_66 rfl (by decide +kernel) ?_
      exact j_iret C hr hk hA dX8_toBy_68 (rfl) (⟨rfl, Or.inl ⟨by unfold toB; rw [if_neg (by intro q9; simp_all), if_neg (by intro q9; simp_all)], rfl⟩⟩)
    · refine j_aload_n (pc' := 46) C dX8_toBy_45 rfl 0 rfl ?_
      refine j_iload_n (pc' := 47) C dX8_toBy_46 rfl 1 rfl ?_
      refine j_iconst (v := (nI 1)) (pc' := 48) C dX8_toBy_47 rfl (by decide +kernel) ?_
      refine j_cVi (As := [.int (nI c), .int (nI 1)]) (wr := []) (pc' := 51) C (c_X8_isWay (a0 := a0) (th := th) (aX := aX) (ty := ty) (sp := sp) (tk := tk) (pl := pl) (va := va) (fa := fa) (aT := aT) (aD := aD) (aS := aS) (aU := aU) (um := um) (aK := aK) (aI := aI) (aL := aL) (aE := aE) (aF := aF) (sm := sm) (aP := aP) (aW := aW) (sn := sn) (aB := aB) (aM := aM) (t := t) (s := s) (c := c) (bk := true) (hT := by first | assumption | omega) (hS := by first | assumption | omega) (hc := by first | assumption | omega)) Y_X8_isWay (ml_X8_136) [0, 1, 2] [] rfl rfl rfl rfl (by decide) rfl rfl rfl dX8_toBy_48 rfl rfl rfl (Nat.le_of_ble_eq_true rfl) ⟨Nat.le_of_ble_eq_true rfl, Nat.le_of_ble_eq_true rfl⟩ ⟨Nat.le_of_ble_eq_true rfl, Nat.le_of_ble_eq_true rfl⟩ ⟨rfl, rfl⟩ (fun r1 w1 hQ => ?_)
      obtain ⟨rfl, rfl⟩ := hQ
      refine j_b_eq (pc' := 54) C 66 dX8_toBy_51 (by decide) rfl (fun c51 => ?_) (fun c51 => ?_)
      · refine j_bipush (v := (-9)) (pc' := 68) C dX8_toBy_66 rfl (by decide +kernel) ?_
        exact j_iret C hr hk hA dX8_toBy_68 (rfl) (⟨rfl, Or.inl ⟨by unfold toB; rw [if_neg (by intro q9; simp_all), if_neg (by intro q9; simp_all)], rfl⟩⟩)
      · refine j_aload_n (pc' := 55) C dX8_toBy_54 rfl 0 rfl ?_
        refine j_get (v := .ref aT) (pc' := 58) C KX8 0 8 rfl (by decide) fl_X8_13 rfl rfl dX8_toBy_55 rfl ?_
        refine j_bipush (v := (nI 12)) (pc' := 60) C dX8_toBy_58 rfl (by decide +kernel) ?_
        refine j_iload_n (pc' := 61) C dX8_toBy_60 rfl 1 rfl ?_
        refine j_iadd (v := (nI (12 + c))) (pc' := 62) C dX8_toBy_61 rfl (nI_add 12 c) ?_
        refine j_nald (pc' := 63) C 1 rfl (by omega) (by decide) dX8_toBy_62 rfl ?_
        refine j_goto C 68 dX8_toBy_63 (by decide) ?_
        exact j_iret C hr hk hA dX8_toBy_68 (rfl) (⟨rfl, Or.inr ⟨_, by unfold toB; rw [if_neg (by intro q9; simp_all), if_pos ⟨c42, c51⟩], rfl, by omega⟩⟩)
  · refine j_aload_n (pc' := 14) C dX8_toBy_13 rfl 0 rfl ?_
    refine j_iload_n (pc' := 15) C dX8_toBy_14 rfl 1 rfl ?_
    refine j_iconst (v := (nI 0)) (pc' := 16) C dX8_toBy_15 rfl (by decide +kernel) ?_
    refine j_cVi (As := [.int (nI c), .int (nI 0)]) (wr := []) (pc' := 19) C (c_X8_isWay (a0 := a0) (th := th) (aX := aX) (ty := ty) (sp := sp) (tk := tk) (pl := pl) (va := va) (fa := fa) (aT := aT) (aD := aD) (aS := aS) (aU := aU) (um := um) (aK := aK) (aI := aI) (aL := aL) (aE := aE) (aF := aF) (sm := sm) (aP := aP) (aW := aW) (sn := sn) (aB := aB) (aM := aM) (t := t) (s := s) (c := c) (bk := false) (hT := by first | assumption | omega) (hS := by first | assumption | omega) (hc := by first | assumption | omega)) Y_X8_isWay (ml_X8_136) [0, 1, 2] [] rfl rfl rfl rfl (by decide) rfl rfl rfl dX8_toBy_16 rfl rfl rfl (Nat.le_of_ble_eq_true rfl) ⟨Nat.le_of_ble_eq_true rfl, Nat.le_of_ble_eq_true rfl⟩ ⟨Nat.le_of_ble_eq_true rfl, Nat.le_of_ble_eq_true rfl⟩ ⟨rfl, rfl⟩ (fun r2 w1 hQ => ?_)
    obtain ⟨rfl, rfl⟩ := hQ
    refine j_b_eq (pc' := 22) C 32 dX8_toBy_19 (by decide) rfl (fun c19 => ?_) (fun c19 => ?_)
    · refine j_aload_n (pc' := 33) C dX8_toBy_32 rfl 0 rfl ?_
      refine j_get (v := .ref aT) (pc' := 36) C KX8 0 8 rfl (by decide) fl_X8_13 rfl rfl dX8_toBy_33 rfl ?_
      refine j_bipush (v := (nI 21)) (pc' := 38) C dX8_toBy_36 rfl (by decide +kernel) ?_
      refine j_iload_n (pc' := 39) C dX8_toBy_38 rfl 1 rfl ?_
      refine j_iadd (v := (nI (21 + c))) (pc' := 40) C dX8_toBy_39 rfl (nI_add 21 c) ?_
      refine j_nald (pc' := 41) C 1 rfl (by omega) (by decide) dX8_toBy_40 rfl ?_
      refine j_iload_n (pc' := 42) C dX8_toBy_41 rfl 2 rfl ?_
      refine j_nc_ne (pc' := 45) C 66 dX8_toBy_42 (by decide) rfl (by omega) (by omega) (fun c42 => ?_) (fun c42 => ?_)
      · refine j_bipush (v := (-9)) (pc' := 68) C dX8_toBy_66 rfl (by decide +kernel) ?_
        exact j_iret C hr hk hA dX8_toBy_68 (rfl) (⟨rfl, Or.inl ⟨by unfold toB; rw [if_neg (by intro q9; simp_all), if_neg (by intro q9; simp_all)], rfl⟩⟩)
      · refine j_aload_n (pc' := 46) C dX8_toBy_45 rfl 0 rfl ?_
        refine j_iload_n (pc' := 47) C dX8_toBy_46 rfl 1 rfl ?_
        refine j_iconst (v := (nI 1)) (pc' := 48) C dX8_toBy_47 rfl (by decide +kernel) ?_
        refine j_cVi (As := [.int (nI c), .int (nI 1)]) (wr := []) (pc' := 51) C (c_X8_isWay (a0 := a0) (th := th) (aX := aX) (ty := ty) (sp := sp) (tk := tk) (pl := pl) (va := va) (fa := fa) (aT := aT) (aD := aD) (aS := aS) (aU := aU) (um := um) (aK := aK) (aI := aI) (aL := aL) (aE := aE) (aF := aF) (sm := sm) (aP := aP) (aW := aW) (sn := sn) (aB := aB) (aM := aM) (t := t) (s := s) (c := c) (bk := true) (hT := by first | assumption | omega) (hS := by first | assumption | omega) (hc := by first | assumption | omega)) Y_X8_isWay (ml_X8_136) [0, 1, 2] [] rfl rfl rfl rfl (by decide) rfl rfl rfl dX8_toBy_48 rfl rfl rfl (Nat.le_of_ble_eq_true rfl) ⟨Nat.le_of_ble_eq_true rfl, Nat.le_of_ble_eq_true rfl⟩ ⟨Nat.le_of_ble_eq_true rfl, Nat.le_of_ble_eq_true rfl⟩ ⟨rfl, rfl⟩ (fun r3 w1 hQ => ?_)
        obtain ⟨rfl, rfl⟩ := hQ
        refine j_b_eq (pc' := 54) C 66 dX8_toBy_51 (by decide) rfl (fun c51 => ?_) (fun c51 => ?_)
        · refine j_bipush (v := (-9)) (pc' := 68) C dX8_toBy_66 rfl (by decide +kernel) ?_
          exact j_iret C hr hk hA dX8_toBy_68 (rfl) (⟨rfl, Or.inl ⟨by unfold toB; rw [if_neg (by intro q9; simp_all), if_neg (by intro q9; simp_all)], rfl⟩⟩)
        · refine j_aload_n (pc' := 55) C dX8_toBy_54 rfl 0 rfl ?_
          refine j_get (v := .ref aT) (pc' := 58) C KX8 0 8 rfl (by decide) fl_X8_13 rfl rfl dX8_toBy_55 rfl ?_
          refine j_bipush (v := (nI 12)) (pc' := 60) C dX8_toBy_58 rfl (by decide +kernel) ?_
          refine j_iload_n (pc' := 61) C dX8_toBy_60 rfl 1 rfl ?_
          refine j_iadd (v := (nI (12 + c))) (pc' := 62) C dX8_toBy_61 rfl (nI_add 12 c) ?_
          refine j_nald (pc' := 63) C 1 rfl (by omega) (by decide) dX8_toBy_62 rfl ?_
          refine j_goto C 68 dX8_toBy_63 (by decide) ?_
          exact j_iret C hr hk hA dX8_toBy_68 (rfl) (⟨rfl, Or.inr ⟨_, by unfold toB; rw [if_neg (by intro q9; simp_all), if_pos ⟨c42, c51⟩], rfl, by omega⟩⟩)
    · refine j_aload_n (pc' := 23) C dX8_toBy_22 rfl 0 rfl ?_
      refine j_get (v := .ref aT) (pc' := 26) C KX8 0 8 rfl (by decide) fl_X8_13 rfl rfl dX8_toBy_23 rfl ?_
      refine j_bipush (v := (nI 21)) (pc' := 28) C dX8_toBy_26 rfl (by decide +kernel) ?_
      refine j_iload_n (pc' := 29) C dX8_toBy_28 rfl 1 rfl ?_
      refine j_iadd (v := (nI (21 + c))) (pc' := 30) C dX8_toBy_29 rfl (nI_add 21 c) ?_
      refine j_nald (pc' := 31) C 1 rfl (by omega) (by decide) dX8_toBy_30 rfl ?_
      exact j_iret C hr hk hA dX8_toBy_31 (rfl) (⟨rfl, Or.inr ⟨_, by unfold toB; rw [if_pos ⟨c10, c19⟩], rfl, by omega⟩⟩)

set_option maxHeartbeats 4000000 in
set_option maxRecDepth 100000 in
theorem c_X8_isOnPath {lch : Launch} {dG : va_G} {cyI cyZ cyO : ClassId} (a0 : Nat) (th : Int32) (aX : Nat) (ty : Int32) (sp : Int32) (tk : Int32) (pl : Int32) (va : Int32) (fa : Int32) (aT : Nat) (aD : Nat) (aS : Nat) (aU : Nat) (um : Int32) (aK : Nat) (aI : Nat) (aL : Nat) (aE : Nat) (aF : Nat) (sm : Int32) (aP : Nat) (aW : Nat) (aB : Nat) (aM : Nat) (wh : Nat → Nat) (d : Nat) (v : Nat) (hd : 1 ≤ d) (hd8 : d ≤ 8) (hv : v < 7) (hw7 : ∀ i, i < d → wh i < 7) : Ki lch yX8_isOnPath cX8_isOnPath 4 .boolean (rmk 1) dG (cyI, cyZ, cyO) [.ref a0, .int (nI v)] [(a0, .inr (8, [.int th, .ref aX, .int ty, .int sp, .int tk, .int pl, .int va, .int fa, .ref aT, .ref aD, .ref aS, .ref aU, .int um, .ref aK, .ref aI, .ref aL, .ref aE, .ref aF, .int sm, .ref aP, .ref aW, .int (mI d), .ref aB, .ref aM])), (aW, .inl (cyI, 8, .inl (nA wh)))] (fun r w1 => w1 = [(a0, .inr (8, [.int th, .ref aX, .int ty, .int sp, .int tk, .int pl, .int va, .int fa, .ref aT, .ref aD, .ref aS, .ref aU, .int um, .ref aK, .ref aI, .ref aL, .ref aE, .ref aF, .int sm, .ref aP, .ref aW, .int (mI d), .ref aB, .ref aM])), (aW, .inl (cyI, 8, .inl (nA wh)))] ∧ r = (bI ((vsN wh d).testBit v))) := by
  refine Ki.of (own := RX8) rfl (by decide) (Nat.le_of_ble_eq_true rfl) (fun p0 e0 s0 m0 ar0 be0 me0 cd0 A0 C hr hk hnm hA => ?_)
  refine j_lsub [(0, .ref a0), (1, .int (nI v))] [0, 1] rfl ?_
  refine j_iconst (v := (nI 0)) (pc' := 1) C dX8_isOnPath_0 rfl (by decide +kernel) ?_
  refine j_istore_n (pc' := 2) C [(2, .int (nI 0)), (0, .ref a0), (1, .int (nI v))] dX8_isOnPath_1 rfl (by decide) rfl ?_
  refine j_iconst (v := (nI 0)) (pc' := 3) C dX8_isOnPath_2 rfl (by decide +kernel) ?_
  refine j_istore_n (pc' := 4) C [(3, .int (nI 0)), (2, .int (nI 0)), (0, .ref a0), (1, .int (nI v))] dX8_isOnPath_3 rfl (by decide) rfl ?_
  refine j_lsub [(0, .ref a0), (1, .int (nI v)), (2, .int (nI 0)), (3, .int (nI 0))] [2, 3, 1, 0] rfl ?_
  refine j_loop2 (fun (k : Nat) (b : Bool) => [(a0, .inr (8, [.int th, .ref aX, .int ty, .int sp, .int tk, .int pl, .int va, .int fa, .ref aT, .ref aD, .ref aS, .ref aU, .int um, .ref aK, .ref aI, .ref aL, .ref aE, .ref aF, .int sm, .ref aP, .ref aW, .int (mI d), .ref aB, .ref aM])), (aW, .inl (cyI, 8, .inl (nA wh)))]) (fun (k : Nat) (b : Bool) => [(0, .ref a0), (1, .int (nI v)), (2, .int (bI b)), (3, .int (nI k))]) (fun (k : Nat) (b : Bool) => []) (fun (k : Nat) (b : Bool) => k ≤ d ∧ b = exB (fun k => decide (wh k = v)) k) (fun (k : Nat) (b : Bool) => d - k) ?_ 0 false ?_
  · intro k b hI4 ih4
    obtain ⟨hk0, hb⟩ := hI4
    refine j_iload_n (pc' := 5) C dX8_isOnPath_4 rfl 3 rfl ?_
    refine j_aload_n (pc' := 6) C dX8_isOnPath_5 rfl 0 rfl ?_
    refine j_get (v := .int (mI d)) (pc' := 9) C KX8 0 21 rfl (by decide) fl_X8_160 rfl rfl dX8_isOnPath_6 rfl ?_
    refine j_top (nI (d - 1)) (mI_n hd) ?_
    refine j_nc_gt (pc' := 12) C 38 dX8_isOnPath_9 (by decide) rfl (by omega) (by omega) (fun c9 => ?_) (fun c9 => ?_)
    · refine j_iload_n (pc' := 39) C dX8_isOnPath_38 rfl 2 rfl ?_
      exact j_iret C hr hk hA dX8_isOnPath_39 (nrw_bI _) (⟨rfl, by rw [vsN_bit, hb, show k = d by omega]⟩)
    · have hk7 := hw7 k (by omega)
      refine j_iload_n (pc' := 13) C dX8_isOnPath_12 rfl 2 rfl ?_
      refine j_b_ne (pc' := 16) C 26 dX8_isOnPath_13 (by decide) rfl (fun c13 => ?_) (fun c13 => ?_)
      · refine j_iconst (v := (nI 1)) (pc' := 27) C dX8_isOnPath_26 rfl (by decide +kernel) ?_
        refine j_goto C 31 dX8_isOnPath_27 (by decide) ?_
        refine j_istore_n (pc' := 32) C [(2, .int (nI 1)), (0, .ref a0), (1, .int (nI v)), (3, .int (nI k))] dX8_isOnPath_31 rfl (by decide) rfl ?_
        refine j_iinc (v := (nI (k + 1))) (pc' := 35) C [(3, .int (nI (k + 1))), (2, .int (nI 1)), (0, .ref a0), (1, .int (nI v))] dX8_isOnPath_32 rfl 3 rfl (inc_n k 1) (by decide) rfl ?_
        refine j_goto C 4 dX8_isOnPath_35 (by decide) ?_
        refine j_lsub [(0, .ref a0), (1, .int (nI v)), (2, .int (nI 1)), (3, .int (nI (k + 1)))] [2, 3, 1, 0] rfl ?_
        exact ih4 (k + 1) true (⟨by omega, by rw [exB, ← hb]; simp_all⟩) (by omega)
      · refine j_aload_n (pc' := 17) C dX8_isOnPath_16 rfl 0 rfl ?_
        refine j_get (v := .ref aW) (pc' := 20) C KX8 0 20 rfl (by decide) fl_X8_44 rfl rfl dX8_isOnPath_17 rfl ?_
        refine j_iload_n (pc' := 21) C dX8_isOnPath_20 rfl 3 rfl ?_
        refine j_nald (pc' := 22) C 1 rfl (by omega) (by decide) dX8_isOnPath_21 rfl ?_
        refine j_iload_n (pc' := 23) C dX8_isOnPath_22 rfl 1 rfl ?_
        refine j_nc_ne (pc' := 26) C 30 dX8_isOnPath_23 (by decide) rfl (by omega) (by omega) (fun c23 => ?_) (fun c23 => ?_)
        · refine j_iconst (v := (nI 0)) (pc' := 31) C dX8_isOnPath_30 rfl (by decide +kernel) ?_
          refine j_istore_n (pc' := 32) C [(2, .int (nI 0)), (0, .ref a0), (1, .int (nI v)), (3, .int (nI k))] dX8_isOnPath_31 rfl (by decide) rfl ?_
          refine j_iinc (v := (nI (k + 1))) (pc' := 35) C [(3, .int (nI (k + 1))), (2, .int (nI 0)), (0, .ref a0), (1, .int (nI v))] dX8_isOnPath_32 rfl 3 rfl (inc_n k 1) (by decide) rfl ?_
          refine j_goto C 4 dX8_isOnPath_35 (by decide) ?_
          refine j_lsub [(0, .ref a0), (1, .int (nI v)), (2, .int (nI 0)), (3, .int (nI (k + 1)))] [2, 3, 1, 0] rfl ?_
          exact ih4 (k + 1) false (⟨by omega, by rw [exB, ← hb]; simp_all⟩) (by omega)
        · refine j_iconst (v := (nI 1)) (pc' := 27) C dX8_isOnPath_26 rfl (by decide +kernel) ?_
          refine j_goto C 31 dX8_isOnPath_27 (by decide) ?_
          refine j_istore_n (pc' := 32) C [(2, .int (nI 1)), (0, .ref a0), (1, .int (nI v)), (3, .int (nI k))] dX8_isOnPath_31 rfl (by decide) rfl ?_
          refine j_iinc (v := (nI (k + 1))) (pc' := 35) C [(3, .int (nI (k + 1))), (2, .int (nI 1)), (0, .ref a0), (1, .int (nI v))] dX8_isOnPath_32 rfl 3 rfl (inc_n k 1) (by decide) rfl ?_
          refine j_goto C 4 dX8_isOnPath_35 (by decide) ?_
          refine j_lsub [(0, .ref a0), (1, .int (nI v)), (2, .int (nI 1)), (3, .int (nI (k + 1)))] [2, 3, 1, 0] rfl ?_
          exact ih4 (k + 1) true (⟨by omega, by rw [exB, ← hb]; simp_all⟩) (by omega)
  · exact ⟨Nat.zero_le _, rfl⟩

set_option maxHeartbeats 4000000 in
set_option maxRecDepth 100000 in
theorem c_X8_beginsPath {lch : Launch} {dG : va_G} {cyI cyZ cyO : ClassId} (a0 : Nat) (th : Int32) (aX : Nat) (ty : Int32) (sp : Int32) (tk : Int32) (pl : Int32) (va : Int32) (fa : Int32) (aT : Nat) (aD : Nat) (aS : Nat) (aU : Nat) (um : Int32) (aK : Nat) (aI : Nat) (aL : Nat) (aE : Nat) (aF : Nat) (sm : Int32) (aP : Nat) (aW : Nat) (sn : Int32) (aB : Nat) (aM : Nat) (stp : Nat → Nat) (wh : Nat → Nat)  : Kv lch yX8_beginsPath cX8_beginsPath 1 (rmk 1) dG (cyI, cyZ, cyO) [.ref a0] [(a0, .inr (8, [.int th, .ref aX, .int ty, .int sp, .int tk, .int pl, .int va, .int fa, .ref aT, .ref aD, .ref aS, .ref aU, .int um, .ref aK, .ref aI, .ref aL, .ref aE, .ref aF, .int sm, .ref aP, .ref aW, .int sn, .ref aB, .ref aM])), (aP, .inl (cyI, 8, .inl (sA stp))), (aW, .inl (cyI, 8, .inl (nA wh)))] (fun w1 => w1 = [(a0, .inr (8, [.int th, .ref aX, .int ty, .int sp, .int tk, .int pl, .int va, .int fa, .ref aT, .ref aD, .ref aS, .ref aU, .int um, .ref aK, .ref aI, .ref aL, .ref aE, .ref aF, .int sm, .ref aP, .ref aW, .int (mI 1), .ref aB, .ref aM])), (aP, .inl (cyI, 8, .inl (sA (uN stp 0 0)))), (aW, .inl (cyI, 8, .inl (nA (uN wh 0 0))))]) := by
  refine Kv.of (own := RX8) rfl (by decide) (Nat.le_of_ble_eq_true rfl) (fun p0 e0 s0 m0 ar0 be0 me0 cd0 A0 C hr hk hnm hA => ?_)
  refine j_lsub [(0, .ref a0)] [0] rfl ?_
  refine j_aload_n (pc' := 1) C dX8_beginsPath_0 rfl 0 rfl ?_
  refine j_iconst (v := (nI 0)) (pc' := 2) C dX8_beginsPath_1 rfl (by decide +kernel) ?_
  refine j_top (mI 1) (mI_s 0) ?_
  refine j_put (pc' := 5) C [(a0, .inr (8, [.int th, .ref aX, .int ty, .int sp, .int tk, .int pl, .int va, .int fa, .ref aT, .ref aD, .ref aS, .ref aU, .int um, .ref aK, .ref aI, .ref aL, .ref aE, .ref aF, .int sm, .ref aP, .ref aW, .int (mI 1), .ref aB, .ref aM])), (aP, .inl (cyI, 8, .inl (sA stp))), (aW, .inl (cyI, 8, .inl (nA wh)))] KX8 0 21 rfl (by decide) fl_X8_160 rfl rfl rfl rfl (Nat.le_of_ble_eq_true rfl) dX8_beginsPath_2 rfl rfl ?_
  refine j_aload_n (pc' := 6) C dX8_beginsPath_5 rfl 0 rfl ?_
  refine j_get (v := .ref aW) (pc' := 9) C KX8 0 20 rfl (by decide) fl_X8_44 rfl rfl dX8_beginsPath_6 rfl ?_
  refine j_iconst (v := (nI 0)) (pc' := 10) C dX8_beginsPath_9 rfl (by decide +kernel) ?_
  refine j_iconst (v := (nI 0)) (pc' := 11) C dX8_beginsPath_10 rfl (by decide +kernel) ?_
  refine j_nast (pc' := 12) C [(a0, .inr (8, [.int th, .ref aX, .int ty, .int sp, .int tk, .int pl, .int va, .int fa, .ref aT, .ref aD, .ref aS, .ref aU, .int um, .ref aK, .ref aI, .ref aL, .ref aE, .ref aF, .int sm, .ref aP, .ref aW, .int (mI 1), .ref aB, .ref aM])), (aP, .inl (cyI, 8, .inl (sA stp))), (aW, .inl (cyI, 8, .inl (nA (uN wh 0 0))))] 2 rfl (by omega) (by decide) dX8_beginsPath_11 rfl rfl ?_
  refine j_aload_n (pc' := 13) C dX8_beginsPath_12 rfl 0 rfl ?_
  refine j_get (v := .ref aP) (pc' := 16) C KX8 0 19 rfl (by decide) fl_X8_41 rfl rfl dX8_beginsPath_13 rfl ?_
  refine j_iconst (v := (nI 0)) (pc' := 17) C dX8_beginsPath_16 rfl (by decide +kernel) ?_
  refine j_iconst (v := (-1)) (pc' := 18) C dX8_beginsPath_17 rfl (by decide +kernel) ?_
  refine j_top (mI 0) (by decide +kernel) ?_
  refine j_sast (pc' := 19) C [(a0, .inr (8, [.int th, .ref aX, .int ty, .int sp, .int tk, .int pl, .int va, .int fa, .ref aT, .ref aD, .ref aS, .ref aU, .int um, .ref aK, .ref aI, .ref aL, .ref aE, .ref aF, .int sm, .ref aP, .ref aW, .int (mI 1), .ref aB, .ref aM])), (aP, .inl (cyI, 8, .inl (sA (uN stp 0 0)))), (aW, .inl (cyI, 8, .inl (nA (uN wh 0 0))))] 1 rfl (by omega) (by decide) dX8_beginsPath_18 rfl rfl ?_
  exact j_vret C hr hk hA dX8_beginsPath_19 (rfl)

set_option maxHeartbeats 4000000 in
set_option maxRecDepth 100000 in
theorem c_X8_nextPath {lch : Launch} {dG : va_G} {cyI cyZ cyO : ClassId} (a0 : Nat) (th : Int32) (aX : Nat) (ty : Int32) (sp : Int32) (tk : Int32) (pl : Int32) (va : Int32) (fa : Int32) (aT : Nat) (aD : Nat) (aS : Nat) (aU : Nat) (um : Int32) (aK : Nat) (aI : Nat) (aL : Nat) (aE : Nat) (aF : Nat) (sm : Int32) (aP : Nat) (aW : Nat) (aB : Nat) (aM : Nat) (t : Nat → Nat) (s : Nat → Nat) (stp : Nat → Nat) (wh : Nat → Nat) (d : Nat) (g : Nat) (hT : WT t) (hS : WS s) (hV : VP t wh stp d) (hd : 1 ≤ d) (hg : g < 7) : Ki lch yX8_nextPath cX8_nextPath 4 .boolean (rmk 4) dG (cyI, cyZ, cyO) [.ref a0, .int (nI g)] [(a0, .inr (8, [.int th, .ref aX, .int ty, .int sp, .int tk, .int pl, .int va, .int fa, .ref aT, .ref aD, .ref aS, .ref aU, .int um, .ref aK, .ref aI, .ref aL, .ref aE, .ref aF, .int sm, .ref aP, .ref aW, .int (mI d), .ref aB, .ref aM])), (aT, .inl (cyI, 42, .inl (nA t))), (aS, .inl (cyI, 30, .inl (nA s))), (aP, .inl (cyI, 8, .inl (sA stp))), (aW, .inl (cyI, 8, .inl (nA wh)))] (fun r w1 => ∃ (d1 : Nat), ∃ (wh1 : Nat → Nat), ∃ (sp1 : Nat → Nat), ∃ (b : Bool), w1 = [(a0, .inr (8, [.int th, .ref aX, .int ty, .int sp, .int tk, .int pl, .int va, .int fa, .ref aT, .ref aD, .ref aS, .ref aU, .int um, .ref aK, .ref aI, .ref aL, .ref aE, .ref aF, .int sm, .ref aP, .ref aW, .int (mI d1), .ref aB, .ref aM])), (aT, .inl (cyI, 42, .inl (nA t))), (aS, .inl (cyI, 30, .inl (nA s))), (aP, .inl (cyI, 8, .inl (sA sp1))), (aW, .inl (cyI, 8, .inl (nA wh1)))] ∧ r = (bI b) ∧ VP t wh1 sp1 d1 ∧ ((b = false ∧ rmL t s g wh stp d = []) ∨ (b = true ∧ 2 ≤ d1 ∧ wh1 (d1 - 1) = g ∧ rmL t s g wh stp d = preL sp1 (d1 - 1) :: remL t s g wh1 sp1 (d1 - 1)))) := by
  have h1 := hT.n
  have h7 := hV.1
  have h6 := hV.2.1 (d - 1) (by omega)
  refine Ki.of (own := RX8) rfl (by decide) (Nat.le_of_ble_eq_true rfl) (fun p0 e0 s0 m0 ar0 be0 me0 cd0 A0 C hr hk hnm hA => ?_)
  refine j_lsub [(0, .ref a0), (1, .int (nI g))] [0, 1] rfl ?_
  refine j_aload_n (pc' := 1) C dX8_nextPath_0 rfl 0 rfl ?_
  refine j_get (v := .ref aW) (pc' := 4) C KX8 0 20 rfl (by decide) fl_X8_44 rfl rfl dX8_nextPath_1 rfl ?_
  refine j_aload_n (pc' := 5) C dX8_nextPath_4 rfl 0 rfl ?_
  refine j_get (v := .int (mI d)) (pc' := 8) C KX8 0 21 rfl (by decide) fl_X8_160 rfl rfl dX8_nextPath_5 rfl ?_
  refine j_top (nI (d - 1)) (mI_n hd) ?_
  refine j_nald (pc' := 9) C 4 rfl (by omega) (by decide) dX8_nextPath_8 rfl ?_
  refine j_iload_n (pc' := 10) C dX8_nextPath_9 rfl 1 rfl ?_
  refine j_nc_ne (pc' := 13) C 23 dX8_nextPath_10 (by decide) rfl (by omega) (by omega) (fun c10 => ?_) (fun c10 => ?_)
  · refine j_lsub [(0, .ref a0), (1, .int (nI g))] [0, 1] rfl ?_
    refine j_loop3 (fun (d2 : Nat) (w2 : Nat → Nat) (p2 : Nat → Nat) => [(a0, .inr (8, [.int th, .ref aX, .int ty, .int sp, .int tk, .int pl, .int va, .int fa, .ref aT, .ref aD, .ref aS, .ref aU, .int um, .ref aK, .ref aI, .ref aL, .ref aE, .ref aF, .int sm, .ref aP, .ref aW, .int (mI d2), .ref aB, .ref aM])), (aT, .inl (cyI, 42, .inl (nA t))), (aS, .inl (cyI, 30, .inl (nA s))), (aP, .inl (cyI, 8, .inl (sA p2))), (aW, .inl (cyI, 8, .inl (nA w2)))]) (fun (d2 : Nat) (w2 : Nat → Nat) (p2 : Nat → Nat) => [(0, .ref a0), (1, .int (nI g))]) (fun (d2 : Nat) (w2 : Nat → Nat) (p2 : Nat → Nat) => []) (fun (d2 : Nat) (w2 : Nat → Nat) (p2 : Nat → Nat) => VP t w2 p2 d2 ∧ remL t s g w2 p2 d2 = rmL t s g wh stp d) (fun (d2 : Nat) (w2 : Nat → Nat) (p2 : Nat → Nat) => muN p2 d2) ?_ d wh stp ?_
    · intro d2 w2 p2 hI23 ih23
      obtain ⟨hV2, hR⟩ := hI23
      refine j_aload_n (pc' := 24) C dX8_nextPath_23 rfl 0 rfl ?_
      refine j_get (v := .int (mI d2)) (pc' := 27) C KX8 0 21 rfl (by decide) fl_X8_160 rfl rfl dX8_nextPath_24 rfl ?_
      refine j_m_lt (pc' := 30) C 174 dX8_nextPath_27 (by decide) rfl (by have := hV2.1; omega) (fun c27 => ?_) (fun c27 => ?_)
      · refine j_iconst (v := (nI 0)) (pc' := 175) C dX8_nextPath_174 rfl (by decide +kernel) ?_
        refine j_top (bI false) (by decide +kernel) ?_
        exact j_iret C hr hk hA dX8_nextPath_175 (nrw_bI _) (⟨d2, w2, p2, _, rfl, rfl, hV2, Or.inl ⟨rfl, by rw [← hR, c27]; rfl⟩⟩)
      · have hf := hV2.2.1 (d2 - 1) (by omega)
        have hd7 := hV2.1
        refine j_aload_n (pc' := 31) C dX8_nextPath_30 rfl 0 rfl ?_
        refine j_get (v := .ref aP) (pc' := 34) C KX8 0 19 rfl (by decide) fl_X8_41 rfl rfl dX8_nextPath_31 rfl ?_
        refine j_aload_n (pc' := 35) C dX8_nextPath_34 rfl 0 rfl ?_
        refine j_get (v := .int (mI d2)) (pc' := 38) C KX8 0 21 rfl (by decide) fl_X8_160 rfl rfl dX8_nextPath_35 rfl ?_
        refine j_top (nI (d2 - 1)) (mI_n (by omega)) ?_
        refine j_sald (pc' := 39) C 3 rfl (by omega) (by decide) dX8_nextPath_38 rfl ?_
        refine j_iconst (v := (nI 1)) (pc' := 40) C dX8_nextPath_39 rfl (by decide +kernel) ?_
        refine j_iadd (v := (nI (p2 (d2 - 1)))) (pc' := 41) C dX8_nextPath_40 rfl (mI_i (p2 (d2 - 1))) ?_
        refine j_istore_n (pc' := 42) C [(2, .int (nI (p2 (d2 - 1)))), (0, .ref a0), (1, .int (nI g))] dX8_nextPath_41 rfl (by decide) rfl ?_
        refine j_bipush (v := (-9)) (pc' := 44) C dX8_nextPath_42 rfl (by decide +kernel) ?_
        refine j_istore_n (pc' := 45) C [(3, .int (-9)), (2, .int (nI (p2 (d2 - 1)))), (0, .ref a0), (1, .int (nI g))] dX8_nextPath_44 rfl (by decide) rfl ?_
        refine j_lsub [(0, .ref a0), (1, .int (nI g)), (2, .int (nI (p2 (d2 - 1)))), (3, .int (-9))] [2, 3, 1, 0] rfl ?_
        refine j_loop2 (fun (c : Nat) (to : Int32) => [(a0, .inr (8, [.int th, .ref aX, .int ty, .int sp, .int tk, .int pl, .int va, .int fa, .ref aT, .ref aD, .ref aS, .ref aU, .int um, .ref aK, .ref aI, .ref aL, .ref aE, .ref aF, .int sm, .ref aP, .ref aW, .int (mI d2), .ref aB, .ref aM])), (aT, .inl (cyI, 42, .inl (nA t))), (aS, .inl (cyI, 30, .inl (nA s))), (aP, .inl (cyI, 8, .inl (sA p2))), (aW, .inl (cyI, 8, .inl (nA w2)))]) (fun (c : Nat) (to : Int32) => [(0, .ref a0), (1, .int (nI g)), (2, .int (nI c)), (3, .int to)]) (fun (c : Nat) (to : Int32) => []) (fun (c : Nat) (to : Int32) => p2 (d2 - 1) ≤ c ∧ c ≤ t 1 ∧ ((to = -9 ∧ ∀ b, p2 (d2 - 1) ≤ b → b < c → nxB t s (vsN w2 d2) (w2 (d2 - 1)) b = none) ∨ (∃ v, to = nI v ∧ p2 (d2 - 1) < c ∧ nxB t s (vsN w2 d2) (w2 (d2 - 1)) (c - 1) = some v ∧ ∀ b, p2 (d2 - 1) ≤ b → b < c - 1 → nxB t s (vsN w2 d2) (w2 (d2 - 1)) b = none))) (fun (c : Nat) (to : Int32) => t 1 - c) ?_ (p2 (d2 - 1)) (-9) ?_
        · intro c to hI45 ih45
          obtain ⟨hc1, hc2, hto⟩ := hI45
          refine j_iload_n (pc' := 46) C dX8_nextPath_45 rfl 2 rfl ?_
          refine j_aload_n (pc' := 47) C dX8_nextPath_46 rfl 0 rfl ?_
          refine j_get (v := .ref aT) (pc' := 50) C KX8 0 8 rfl (by decide) fl_X8_13 rfl rfl dX8_nextPath_47 rfl ?_
          refine j_iconst (v := (nI 1)) (pc' := 51) C dX8_nextPath_50 rfl (by decide +kernel) ?_
          refine j_nald (pc' := 52) C 1 rfl (by omega) (by decide) dX8_nextPath_51 rfl ?_
          refine j_nc_ge (pc' := 55) C 103 dX8_nextPath_52 (by decide) rfl (by omega) (by omega) (fun c52 => ?_) (fun c52 => ?_)
          · rcases hto with ⟨rfl, hno⟩ | ⟨v, rfl, hlt, hv, hno⟩
            · have hpp := np_pop (g := g) (c := c) hT hV2 c27 (fun b hb1 hb2 => hno b hb1 (by omega))
              have hdn := hpp.2.2
              refine j_aload_n (pc' := 104) C dX8_nextPath_103 rfl 0 rfl ?_
              refine j_get (v := .ref aP) (pc' := 107) C KX8 0 19 rfl (by decide) fl_X8_41 rfl rfl dX8_nextPath_104 rfl ?_
              refine j_aload_n (pc' := 108) C dX8_nextPath_107 rfl 0 rfl ?_
              refine j_get (v := .int (mI d2)) (pc' := 111) C KX8 0 21 rfl (by decide) fl_X8_160 rfl rfl dX8_nextPath_108 rfl ?_
              refine j_top (nI (d2 - 1)) (mI_n (by omega)) ?_
              refine j_iload_n (pc' := 112) C dX8_nextPath_111 rfl 2 rfl ?_
              refine j_iconst (v := (nI 1)) (pc' := 113) C dX8_nextPath_112 rfl (by decide +kernel) ?_
              refine j_isub (v := (mI c)) (pc' := 114) C dX8_nextPath_113 rfl (rfl) ?_
              refine j_sast (pc' := 115) C [(a0, .inr (8, [.int th, .ref aX, .int ty, .int sp, .int tk, .int pl, .int va, .int fa, .ref aT, .ref aD, .ref aS, .ref aU, .int um, .ref aK, .ref aI, .ref aL, .ref aE, .ref aF, .int sm, .ref aP, .ref aW, .int (mI d2), .ref aB, .ref aM])), (aT, .inl (cyI, 42, .inl (nA t))), (aS, .inl (cyI, 30, .inl (nA s))), (aP, .inl (cyI, 8, .inl (sA (uN p2 (d2 - 1) c)))), (aW, .inl (cyI, 8, .inl (nA w2)))] 3 rfl (by omega) (by decide) dX8_nextPath_114 rfl rfl ?_
              refine j_iload_n (pc' := 116) C dX8_nextPath_115 rfl 3 rfl ?_
              refine j_bipush (v := (-9)) (pc' := 118) C dX8_nextPath_116 rfl (by decide +kernel) ?_
              refine j_ic_ne (pc' := 121) C 134 dX8_nextPath_118 (by decide) rfl (fun c118 => ?_) (fun c118 => ?_)
              · exact absurd c118 (by decide +kernel)
              · refine j_aload_n (pc' := 122) C dX8_nextPath_121 rfl 0 rfl ?_
                refine j_dup (pc' := 123) C dX8_nextPath_122 rfl rfl ?_
                refine j_get (v := .int (mI d2)) (pc' := 126) C KX8 0 21 rfl (by decide) fl_X8_160 rfl rfl dX8_nextPath_123 rfl ?_
                refine j_iconst (v := (nI 1)) (pc' := 127) C dX8_nextPath_126 rfl (by decide +kernel) ?_
                refine j_isub (v := (mI (d2 - 1))) (pc' := 128) C dX8_nextPath_127 rfl (mI_d (by omega)) ?_
                refine j_put (pc' := 131) C [(a0, .inr (8, [.int th, .ref aX, .int ty, .int sp, .int tk, .int pl, .int va, .int fa, .ref aT, .ref aD, .ref aS, .ref aU, .int um, .ref aK, .ref aI, .ref aL, .ref aE, .ref aF, .int sm, .ref aP, .ref aW, .int (mI (d2 - 1)), .ref aB, .ref aM])), (aT, .inl (cyI, 42, .inl (nA t))), (aS, .inl (cyI, 30, .inl (nA s))), (aP, .inl (cyI, 8, .inl (sA (uN p2 (d2 - 1) c)))), (aW, .inl (cyI, 8, .inl (nA w2)))] KX8 0 21 rfl (by decide) fl_X8_160 rfl rfl rfl rfl (Nat.le_of_ble_eq_true rfl) dX8_nextPath_128 rfl rfl ?_
                refine j_goto C 171 dX8_nextPath_131 (by decide) ?_
                refine j_goto C 23 dX8_nextPath_171 (by decide) ?_
                refine j_lsub [(0, .ref a0), (1, .int (nI g))] [0, 1] rfl ?_
                exact ih23 (d2 - 1) w2 (uN p2 (d2 - 1) c) (⟨hpp.1, hpp.2.1.symm.trans hR⟩) (hdn)
            · have hv7 := (toB_lt hT (by omega) (nxB_to hv).1)
              have hpp := np_push (g := g) hT hV2 c27 hlt hc2 hv hno
              have hdn := hpp.2.2.2
              refine j_aload_n (pc' := 104) C dX8_nextPath_103 rfl 0 rfl ?_
              refine j_get (v := .ref aP) (pc' := 107) C KX8 0 19 rfl (by decide) fl_X8_41 rfl rfl dX8_nextPath_104 rfl ?_
              refine j_aload_n (pc' := 108) C dX8_nextPath_107 rfl 0 rfl ?_
              refine j_get (v := .int (mI d2)) (pc' := 111) C KX8 0 21 rfl (by decide) fl_X8_160 rfl rfl dX8_nextPath_108 rfl ?_
              refine j_top (nI (d2 - 1)) (mI_n (by omega)) ?_
              refine j_iload_n (pc' := 112) C dX8_nextPath_111 rfl 2 rfl ?_
              refine j_iconst (v := (nI 1)) (pc' := 113) C dX8_nextPath_112 rfl (by decide +kernel) ?_
              refine j_isub (v := (mI c)) (pc' := 114) C dX8_nextPath_113 rfl (rfl) ?_
              refine j_sast (pc' := 115) C [(a0, .inr (8, [.int th, .ref aX, .int ty, .int sp, .int tk, .int pl, .int va, .int fa, .ref aT, .ref aD, .ref aS, .ref aU, .int um, .ref aK, .ref aI, .ref aL, .ref aE, .ref aF, .int sm, .ref aP, .ref aW, .int (mI d2), .ref aB, .ref aM])), (aT, .inl (cyI, 42, .inl (nA t))), (aS, .inl (cyI, 30, .inl (nA s))), (aP, .inl (cyI, 8, .inl (sA (uN p2 (d2 - 1) c)))), (aW, .inl (cyI, 8, .inl (nA w2)))] 3 rfl (by omega) (by decide) dX8_nextPath_114 rfl rfl ?_
              refine j_iload_n (pc' := 116) C dX8_nextPath_115 rfl 3 rfl ?_
              refine j_bipush (v := (-9)) (pc' := 118) C dX8_nextPath_116 rfl (by decide +kernel) ?_
              refine j_ic_ne (pc' := 121) C 134 dX8_nextPath_118 (by decide) rfl (fun c118 => ?_) (fun c118 => ?_)
              · refine j_aload_n (pc' := 135) C dX8_nextPath_134 rfl 0 rfl ?_
                refine j_dup (pc' := 136) C dX8_nextPath_135 rfl rfl ?_
                refine j_get (v := .int (mI d2)) (pc' := 139) C KX8 0 21 rfl (by decide) fl_X8_160 rfl rfl dX8_nextPath_136 rfl ?_
                refine j_iconst (v := (nI 1)) (pc' := 140) C dX8_nextPath_139 rfl (by decide +kernel) ?_
                refine j_iadd (v := (nI d2)) (pc' := 141) C dX8_nextPath_140 rfl (mI_i d2) ?_
                refine j_top (mI (d2 + 1)) (mI_s d2) ?_
                refine j_put (pc' := 144) C [(a0, .inr (8, [.int th, .ref aX, .int ty, .int sp, .int tk, .int pl, .int va, .int fa, .ref aT, .ref aD, .ref aS, .ref aU, .int um, .ref aK, .ref aI, .ref aL, .ref aE, .ref aF, .int sm, .ref aP, .ref aW, .int (mI (d2 + 1)), .ref aB, .ref aM])), (aT, .inl (cyI, 42, .inl (nA t))), (aS, .inl (cyI, 30, .inl (nA s))), (aP, .inl (cyI, 8, .inl (sA (uN p2 (d2 - 1) c)))), (aW, .inl (cyI, 8, .inl (nA w2)))] KX8 0 21 rfl (by decide) fl_X8_160 rfl rfl rfl rfl (Nat.le_of_ble_eq_true rfl) dX8_nextPath_141 rfl rfl ?_
                refine j_aload_n (pc' := 145) C dX8_nextPath_144 rfl 0 rfl ?_
                refine j_get (v := .ref aW) (pc' := 148) C KX8 0 20 rfl (by decide) fl_X8_44 rfl rfl dX8_nextPath_145 rfl ?_
                refine j_aload_n (pc' := 149) C dX8_nextPath_148 rfl 0 rfl ?_
                refine j_get (v := .int (mI (d2 + 1))) (pc' := 152) C KX8 0 21 rfl (by decide) fl_X8_160 rfl rfl dX8_nextPath_149 rfl ?_
                refine j_top (nI d2) ((mI_s d2).symm) ?_
                refine j_iload_n (pc' := 153) C dX8_nextPath_152 rfl 3 rfl ?_
                refine j_nast (pc' := 154) C [(a0, .inr (8, [.int th, .ref aX, .int ty, .int sp, .int tk, .int pl, .int va, .int fa, .ref aT, .ref aD, .ref aS, .ref aU, .int um, .ref aK, .ref aI, .ref aL, .ref aE, .ref aF, .int sm, .ref aP, .ref aW, .int (mI (d2 + 1)), .ref aB, .ref aM])), (aT, .inl (cyI, 42, .inl (nA t))), (aS, .inl (cyI, 30, .inl (nA s))), (aP, .inl (cyI, 8, .inl (sA (uN p2 (d2 - 1) c)))), (aW, .inl (cyI, 8, .inl (nA (uN w2 d2 v))))] 4 rfl (by omega) (by decide) dX8_nextPath_153 rfl rfl ?_
                refine j_aload_n (pc' := 155) C dX8_nextPath_154 rfl 0 rfl ?_
                refine j_get (v := .ref aP) (pc' := 158) C KX8 0 19 rfl (by decide) fl_X8_41 rfl rfl dX8_nextPath_155 rfl ?_
                refine j_aload_n (pc' := 159) C dX8_nextPath_158 rfl 0 rfl ?_
                refine j_get (v := .int (mI (d2 + 1))) (pc' := 162) C KX8 0 21 rfl (by decide) fl_X8_160 rfl rfl dX8_nextPath_159 rfl ?_
                refine j_top (nI d2) ((mI_s d2).symm) ?_
                refine j_iconst (v := (-1)) (pc' := 163) C dX8_nextPath_162 rfl (by decide +kernel) ?_
                refine j_top (mI 0) (by decide +kernel) ?_
                refine j_sast (pc' := 164) C [(a0, .inr (8, [.int th, .ref aX, .int ty, .int sp, .int tk, .int pl, .int va, .int fa, .ref aT, .ref aD, .ref aS, .ref aU, .int um, .ref aK, .ref aI, .ref aL, .ref aE, .ref aF, .int sm, .ref aP, .ref aW, .int (mI (d2 + 1)), .ref aB, .ref aM])), (aT, .inl (cyI, 42, .inl (nA t))), (aS, .inl (cyI, 30, .inl (nA s))), (aP, .inl (cyI, 8, .inl (sA (uN (uN p2 (d2 - 1) c) d2 0)))), (aW, .inl (cyI, 8, .inl (nA (uN w2 d2 v))))] 3 rfl (by omega) (by decide) dX8_nextPath_163 rfl rfl ?_
                refine j_iload_n (pc' := 165) C dX8_nextPath_164 rfl 3 rfl ?_
                refine j_iload_n (pc' := 166) C dX8_nextPath_165 rfl 1 rfl ?_
                refine j_nc_ne (pc' := 169) C 171 dX8_nextPath_166 (by decide) rfl (by omega) (by omega) (fun c166 => ?_) (fun c166 => ?_)
                · refine j_goto C 23 dX8_nextPath_171 (by decide) ?_
                  refine j_lsub [(0, .ref a0), (1, .int (nI g))] [0, 1] rfl ?_
                  exact ih23 (d2 + 1) (uN w2 d2 v) (uN (uN p2 (d2 - 1) c) d2 0) (⟨hpp.1, (hpp.2.1 c166).symm.trans hR⟩) (hdn)
                · refine j_iconst (v := (nI 1)) (pc' := 170) C dX8_nextPath_169 rfl (by decide +kernel) ?_
                  refine j_top (bI true) (by decide +kernel) ?_
                  exact j_iret C hr hk hA dX8_nextPath_170 (nrw_bI _) (⟨d2 + 1, uN w2 d2 v, uN (uN p2 (d2 - 1) c) d2 0, _, rfl, rfl, hpp.1, Or.inr ⟨rfl, by omega, by rw [Nat.add_sub_cancel, uN_s]; exact c166, by rw [← hR, hpp.2.2.1 c166, Nat.add_sub_cancel]⟩⟩)
              · exact absurd c118 (fun q9 => q9 (n9 (by omega)))
          · refine j_iload_n (pc' := 56) C dX8_nextPath_55 rfl 3 rfl ?_
            refine j_bipush (v := (-9)) (pc' := 58) C dX8_nextPath_56 rfl (by decide +kernel) ?_
            refine j_ic_ne (pc' := 61) C 103 dX8_nextPath_58 (by decide) rfl (fun c58 => ?_) (fun c58 => ?_)
            · rcases hto with ⟨rfl, hno⟩ | ⟨v, rfl, hlt, hv, hno⟩
              · exact absurd rfl c58
              · have hv7 := (toB_lt hT (by omega) (nxB_to hv).1)
                have hpp := np_push (g := g) hT hV2 c27 hlt hc2 hv hno
                have hdn := hpp.2.2.2
                refine j_aload_n (pc' := 104) C dX8_nextPath_103 rfl 0 rfl ?_
                refine j_get (v := .ref aP) (pc' := 107) C KX8 0 19 rfl (by decide) fl_X8_41 rfl rfl dX8_nextPath_104 rfl ?_
                refine j_aload_n (pc' := 108) C dX8_nextPath_107 rfl 0 rfl ?_
                refine j_get (v := .int (mI d2)) (pc' := 111) C KX8 0 21 rfl (by decide) fl_X8_160 rfl rfl dX8_nextPath_108 rfl ?_
                refine j_top (nI (d2 - 1)) (mI_n (by omega)) ?_
                refine j_iload_n (pc' := 112) C dX8_nextPath_111 rfl 2 rfl ?_
                refine j_iconst (v := (nI 1)) (pc' := 113) C dX8_nextPath_112 rfl (by decide +kernel) ?_
                refine j_isub (v := (mI c)) (pc' := 114) C dX8_nextPath_113 rfl (rfl) ?_
                refine j_sast (pc' := 115) C [(a0, .inr (8, [.int th, .ref aX, .int ty, .int sp, .int tk, .int pl, .int va, .int fa, .ref aT, .ref aD, .ref aS, .ref aU, .int um, .ref aK, .ref aI, .ref aL, .ref aE, .ref aF, .int sm, .ref aP, .ref aW, .int (mI d2), .ref aB, .ref aM])), (aT, .inl (cyI, 42, .inl (nA t))), (aS, .inl (cyI, 30, .inl (nA s))), (aP, .inl (cyI, 8, .inl (sA (uN p2 (d2 - 1) c)))), (aW, .inl (cyI, 8, .inl (nA w2)))] 3 rfl (by omega) (by decide) dX8_nextPath_114 rfl rfl ?_
                refine j_iload_n (pc' := 116) C dX8_nextPath_115 rfl 3 rfl ?_
                refine j_bipush (v := (-9)) (pc' := 118) C dX8_nextPath_116 rfl (by decide +kernel) ?_
                refine j_ic_ne (pc' := 121) C 134 dX8_nextPath_118 (by decide) rfl (fun c118 => ?_) (fun c118 => ?_)
                · refine j_aload_n (pc' := 135) C dX8_nextPath_134 rfl 0 rfl ?_
                  refine j_dup (pc' := 136) C dX8_nextPath_135 rfl rfl ?_
                  refine j_get (v := .int (mI d2)) (pc' := 139) C KX8 0 21 rfl (by decide) fl_X8_160 rfl rfl dX8_nextPath_136 rfl ?_
                  refine j_iconst (v := (nI 1)) (pc' := 140) C dX8_nextPath_139 rfl (by decide +kernel) ?_
                  refine j_iadd (v := (nI d2)) (pc' := 141) C dX8_nextPath_140 rfl (mI_i d2) ?_
                  refine j_top (mI (d2 + 1)) (mI_s d2) ?_
                  refine j_put (pc' := 144) C [(a0, .inr (8, [.int th, .ref aX, .int ty, .int sp, .int tk, .int pl, .int va, .int fa, .ref aT, .ref aD, .ref aS, .ref aU, .int um, .ref aK, .ref aI, .ref aL, .ref aE, .ref aF, .int sm, .ref aP, .ref aW, .int (mI (d2 + 1)), .ref aB, .ref aM])), (aT, .inl (cyI, 42, .inl (nA t))), (aS, .inl (cyI, 30, .inl (nA s))), (aP, .inl (cyI, 8, .inl (sA (uN p2 (d2 - 1) c)))), (aW, .inl (cyI, 8, .inl (nA w2)))] KX8 0 21 rfl (by decide) fl_X8_160 rfl rfl rfl rfl (Nat.le_of_ble_eq_true rfl) dX8_nextPath_141 rfl rfl ?_
                  refine j_aload_n (pc' := 145) C dX8_nextPath_144 rfl 0 rfl ?_
                  refine j_get (v := .ref aW) (pc' := 148) C KX8 0 20 rfl (by decide) fl_X8_44 rfl rfl dX8_nextPath_145 rfl ?_
                  refine j_aload_n (pc' := 149) C dX8_nextPath_148 rfl 0 rfl ?_
                  refine j_get (v := .int (mI (d2 + 1))) (pc' := 152) C KX8 0 21 rfl (by decide) fl_X8_160 rfl rfl dX8_nextPath_149 rfl ?_
                  refine j_top (nI d2) ((mI_s d2).symm) ?_
                  refine j_iload_n (pc' := 153) C dX8_nextPath_152 rfl 3 rfl ?_
                  refine j_nast (pc' := 154) C [(a0, .inr (8, [.int th, .ref aX, .int ty, .int sp, .int tk, .int pl, .int va, .int fa, .ref aT, .ref aD, .ref aS, .ref aU, .int um, .ref aK, .ref aI, .ref aL, .ref aE, .ref aF, .int sm, .ref aP, .ref aW, .int (mI (d2 + 1)), .ref aB, .ref aM])), (aT, .inl (cyI, 42, .inl (nA t))), (aS, .inl (cyI, 30, .inl (nA s))), (aP, .inl (cyI, 8, .inl (sA (uN p2 (d2 - 1) c)))), (aW, .inl (cyI, 8, .inl (nA (uN w2 d2 v))))] 4 rfl (by omega) (by decide) dX8_nextPath_153 rfl rfl ?_
                  refine j_aload_n (pc' := 155) C dX8_nextPath_154 rfl 0 rfl ?_
                  refine j_get (v := .ref aP) (pc' := 158) C KX8 0 19 rfl (by decide) fl_X8_41 rfl rfl dX8_nextPath_155 rfl ?_
                  refine j_aload_n (pc' := 159) C dX8_nextPath_158 rfl 0 rfl ?_
                  refine j_get (v := .int (mI (d2 + 1))) (pc' := 162) C KX8 0 21 rfl (by decide) fl_X8_160 rfl rfl dX8_nextPath_159 rfl ?_
                  refine j_top (nI d2) ((mI_s d2).symm) ?_
                  refine j_iconst (v := (-1)) (pc' := 163) C dX8_nextPath_162 rfl (by decide +kernel) ?_
                  refine j_top (mI 0) (by decide +kernel) ?_
                  refine j_sast (pc' := 164) C [(a0, .inr (8, [.int th, .ref aX, .int ty, .int sp, .int tk, .int pl, .int va, .int fa, .ref aT, .ref aD, .ref aS, .ref aU, .int um, .ref aK, .ref aI, .ref aL, .ref aE, .ref aF, .int sm, .ref aP, .ref aW, .int (mI (d2 + 1)), .ref aB, .ref aM])), (aT, .inl (cyI, 42, .inl (nA t))), (aS, .inl (cyI, 30, .inl (nA s))), (aP, .inl (cyI, 8, .inl (sA (uN (uN p2 (d2 - 1) c) d2 0)))), (aW, .inl (cyI, 8, .inl (nA (uN w2 d2 v))))] 3 rfl (by omega) (by decide) dX8_nextPath_163 rfl rfl ?_
                  refine j_iload_n (pc' := 165) C dX8_nextPath_164 rfl 3 rfl ?_
                  refine j_iload_n (pc' := 166) C dX8_nextPath_165 rfl 1 rfl ?_
                  refine j_nc_ne (pc' := 169) C 171 dX8_nextPath_166 (by decide) rfl (by omega) (by omega) (fun c166 => ?_) (fun c166 => ?_)
                  · refine j_goto C 23 dX8_nextPath_171 (by decide) ?_
                    refine j_lsub [(0, .ref a0), (1, .int (nI g))] [0, 1] rfl ?_
                    exact ih23 (d2 + 1) (uN w2 d2 v) (uN (uN p2 (d2 - 1) c) d2 0) (⟨hpp.1, (hpp.2.1 c166).symm.trans hR⟩) (hdn)
                  · refine j_iconst (v := (nI 1)) (pc' := 170) C dX8_nextPath_169 rfl (by decide +kernel) ?_
                    refine j_top (bI true) (by decide +kernel) ?_
                    exact j_iret C hr hk hA dX8_nextPath_170 (nrw_bI _) (⟨d2 + 1, uN w2 d2 v, uN (uN p2 (d2 - 1) c) d2 0, _, rfl, rfl, hpp.1, Or.inr ⟨rfl, by omega, by rw [Nat.add_sub_cancel, uN_s]; exact c166, by rw [← hR, hpp.2.2.1 c166, Nat.add_sub_cancel]⟩⟩)
                · exact absurd c118 (fun q9 => q9 (n9 (by omega)))
            · have hno : ∀ b, p2 (d2 - 1) ≤ b → b < c → nxB t s (vsN w2 d2) (w2 (d2 - 1)) b = none := by
                rcases hto with ⟨_, hno⟩ | ⟨v, hv, _, hnx, _⟩
                · exact hno
                · exact absurd (hv.symm.trans (Classical.not_not.mp c58)) (n9 (by have := toB_lt hT (by omega) (nxB_to hnx).1; omega))
              refine j_aload_n (pc' := 62) C dX8_nextPath_61 rfl 0 rfl ?_
              refine j_iload_n (pc' := 63) C dX8_nextPath_62 rfl 2 rfl ?_
              refine j_aload_n (pc' := 64) C dX8_nextPath_63 rfl 0 rfl ?_
              refine j_get (v := .ref aW) (pc' := 67) C KX8 0 20 rfl (by decide) fl_X8_44 rfl rfl dX8_nextPath_64 rfl ?_
              refine j_aload_n (pc' := 68) C dX8_nextPath_67 rfl 0 rfl ?_
              refine j_get (v := .int (mI d2)) (pc' := 71) C KX8 0 21 rfl (by decide) fl_X8_160 rfl rfl dX8_nextPath_68 rfl ?_
              refine j_top (nI (d2 - 1)) (mI_n (by omega)) ?_
              refine j_nald (pc' := 72) C 4 rfl (by omega) (by decide) dX8_nextPath_71 rfl ?_
              refine j_cVi (As := [.int (nI c), .int (nI (w2 (d2 - 1)))]) (wr := [(aP, .inl (cyI, 8, .inl (sA p2))), (aW, .inl (cyI, 8, .inl (nA w2)))]) (pc' := 75) C (c_X8_toBy (a0 := a0) (th := th) (aX := aX) (ty := ty) (sp := sp) (tk := tk) (pl := pl) (va := va) (fa := fa) (aT := aT) (aD := aD) (aS := aS) (aU := aU) (um := um) (aK := aK) (aI := aI) (aL := aL) (aE := aE) (aF := aF) (sm := sm) (aP := aP) (aW := aW) (sn := (mI d2)) (aB := aB) (aM := aM) (t := t) (s := s) (c := c) (a := w2 (d2 - 1)) (hT := by first | assumption | omega) (hS := by first | assumption | omega) (hc := by first | assumption | omega) (ha := by omega)) Y_X8_toBy (ml_X8_163) [0, 1, 2] [3, 4] rfl rfl rfl rfl (by decide) rfl rfl rfl dX8_nextPath_72 rfl rfl rfl (Nat.le_of_ble_eq_true rfl) ⟨Nat.le_of_ble_eq_true rfl, Nat.le_of_ble_eq_true rfl⟩ ⟨Nat.le_of_ble_eq_true rfl, Nat.le_of_ble_eq_true rfl⟩ ⟨rfl, rfl⟩ (fun r1 w1 hQ => ?_)
              obtain ⟨rfl, hF72⟩ := hQ
              refine j_perm [(a0, .inr (8, [.int th, .ref aX, .int ty, .int sp, .int tk, .int pl, .int va, .int fa, .ref aT, .ref aD, .ref aS, .ref aU, .int um, .ref aK, .ref aI, .ref aL, .ref aE, .ref aF, .int sm, .ref aP, .ref aW, .int (mI d2), .ref aB, .ref aM])), (aT, .inl (cyI, 42, .inl (nA t))), (aS, .inl (cyI, 30, .inl (nA s))), (aP, .inl (cyI, 8, .inl (sA p2))), (aW, .inl (cyI, 8, .inl (nA w2)))] [2, 3, 4, 0, 1] rfl rfl (by decide) ?_
              rcases hF72 with ⟨htn, rfl⟩ | ⟨v, hts, rfl, htv⟩
              · refine j_istore_n (pc' := 76) C [(3, .int (-9)), (0, .ref a0), (1, .int (nI g)), (2, .int (nI c))] dX8_nextPath_75 rfl (by decide) rfl ?_
                refine j_iload_n (pc' := 77) C dX8_nextPath_76 rfl 0 rfl ?_
                refine j_bipush (v := (-9)) (pc' := 79) C dX8_nextPath_77 rfl (by decide +kernel) ?_
                refine j_ic_eq (pc' := 82) C 95 dX8_nextPath_79 (by decide) rfl (fun c79 => ?_) (fun c79 => ?_)
                · refine j_iload_n (pc' := 96) C dX8_nextPath_95 rfl 0 rfl ?_
                  refine j_istore_n (pc' := 97) C [(3, .int (-9)), (0, .ref a0), (1, .int (nI g)), (2, .int (nI c))] dX8_nextPath_96 rfl (by decide) rfl ?_
                  refine j_iinc (v := (nI (c + 1))) (pc' := 100) C [(2, .int (nI (c + 1))), (3, .int (-9)), (0, .ref a0), (1, .int (nI g))] dX8_nextPath_97 rfl 3 rfl (inc_n c 1) (by decide) rfl ?_
                  refine j_goto C 45 dX8_nextPath_100 (by decide) ?_
                  refine j_lsub [(0, .ref a0), (1, .int (nI g)), (2, .int (nI (c + 1))), (3, .int (-9))] [2, 3, 0, 1] rfl ?_
                  exact ih45 (c + 1) (-9) (⟨by omega, by omega, Or.inl ⟨rfl, fun b hb1 hb2 => if hbe : b = c then by rw [hbe]; exact nxB_no htn else hno b hb1 (by omega)⟩⟩) (by omega)
                · exact absurd c79 (by decide +kernel)
              · refine j_istore_n (pc' := 76) C [(3, .int (nI v)), (0, .ref a0), (1, .int (nI g)), (2, .int (nI c))] dX8_nextPath_75 rfl (by decide) rfl ?_
                refine j_iload_n (pc' := 77) C dX8_nextPath_76 rfl 0 rfl ?_
                refine j_bipush (v := (-9)) (pc' := 79) C dX8_nextPath_77 rfl (by decide +kernel) ?_
                refine j_ic_eq (pc' := 82) C 95 dX8_nextPath_79 (by decide) rfl (fun c79 => ?_) (fun c79 => ?_)
                · exact absurd c79 (n9 (by omega))
                · refine j_aload_n (pc' := 83) C dX8_nextPath_82 rfl 1 rfl ?_
                  refine j_iload_n (pc' := 84) C dX8_nextPath_83 rfl 0 rfl ?_
                  refine j_cVi (As := [.int (nI v)]) (wr := [(aT, .inl (cyI, 42, .inl (nA t))), (aS, .inl (cyI, 30, .inl (nA s))), (aP, .inl (cyI, 8, .inl (sA p2)))]) (pc' := 87) C (c_X8_isOnPath (a0 := a0) (th := th) (aX := aX) (ty := ty) (sp := sp) (tk := tk) (pl := pl) (va := va) (fa := fa) (aT := aT) (aD := aD) (aS := aS) (aU := aU) (um := um) (aK := aK) (aI := aI) (aL := aL) (aE := aE) (aF := aF) (sm := sm) (aP := aP) (aW := aW) (aB := aB) (aM := aM) (wh := w2) (d := d2) (v := v) (hd := by omega) (hd8 := by omega) (hv := by first | assumption | omega) (hw7 := fun i hi => by have := (hV2.2.1 i hi).1; omega)) Y_X8_isOnPath (ml_X8_166) [0, 4] [1, 2, 3] rfl rfl rfl rfl (by decide) rfl rfl rfl dX8_nextPath_84 rfl rfl rfl (Nat.le_of_ble_eq_true rfl) ⟨Nat.le_of_ble_eq_true rfl, Nat.le_of_ble_eq_true rfl⟩ ⟨Nat.le_of_ble_eq_true rfl, Nat.le_of_ble_eq_true rfl⟩ ⟨rfl, rfl⟩ (fun r2 w1 hQ => ?_)
                  obtain ⟨rfl, rfl⟩ := hQ
                  refine j_perm [(a0, .inr (8, [.int th, .ref aX, .int ty, .int sp, .int tk, .int pl, .int va, .int fa, .ref aT, .ref aD, .ref aS, .ref aU, .int um, .ref aK, .ref aI, .ref aL, .ref aE, .ref aF, .int sm, .ref aP, .ref aW, .int (mI d2), .ref aB, .ref aM])), (aT, .inl (cyI, 42, .inl (nA t))), (aS, .inl (cyI, 30, .inl (nA s))), (aP, .inl (cyI, 8, .inl (sA p2))), (aW, .inl (cyI, 8, .inl (nA w2)))] [3, 0, 1, 2, 4] rfl rfl (by decide) ?_
                  refine j_b_eq (pc' := 90) C 95 dX8_nextPath_87 (by decide) rfl (fun c87 => ?_) (fun c87 => ?_)
                  · refine j_iload_n (pc' := 96) C dX8_nextPath_95 rfl 0 rfl ?_
                    refine j_istore_n (pc' := 97) C [(3, .int (nI v)), (0, .ref a0), (1, .int (nI g)), (2, .int (nI c))] dX8_nextPath_96 rfl (by decide) rfl ?_
                    refine j_iinc (v := (nI (c + 1))) (pc' := 100) C [(2, .int (nI (c + 1))), (3, .int (nI v)), (0, .ref a0), (1, .int (nI g))] dX8_nextPath_97 rfl 3 rfl (inc_n c 1) (by decide) rfl ?_
                    refine j_goto C 45 dX8_nextPath_100 (by decide) ?_
                    refine j_lsub [(0, .ref a0), (1, .int (nI g)), (2, .int (nI (c + 1))), (3, .int (nI v))] [2, 3, 0, 1] rfl ?_
                    exact ih45 (c + 1) (nI v) (⟨by omega, by omega, Or.inr ⟨v, rfl, by omega, by rw [Nat.add_sub_cancel]; exact nxB_ok hts c87, fun b hb1 hb2 => hno b hb1 (by omega)⟩⟩) (by omega)
                  · refine j_bipush (v := (-9)) (pc' := 92) C dX8_nextPath_90 rfl (by decide +kernel) ?_
                    refine j_goto C 96 dX8_nextPath_92 (by decide) ?_
                    refine j_istore_n (pc' := 97) C [(3, .int (-9)), (0, .ref a0), (1, .int (nI g)), (2, .int (nI c))] dX8_nextPath_96 rfl (by decide) rfl ?_
                    refine j_iinc (v := (nI (c + 1))) (pc' := 100) C [(2, .int (nI (c + 1))), (3, .int (-9)), (0, .ref a0), (1, .int (nI g))] dX8_nextPath_97 rfl 3 rfl (inc_n c 1) (by decide) rfl ?_
                    refine j_goto C 45 dX8_nextPath_100 (by decide) ?_
                    refine j_lsub [(0, .ref a0), (1, .int (nI g)), (2, .int (nI (c + 1))), (3, .int (-9))] [2, 3, 0, 1] rfl ?_
                    exact ih45 (c + 1) (-9) (⟨by omega, by omega, Or.inl ⟨rfl, fun b hb1 hb2 => if hbe : b = c then by rw [hbe]; exact nxB_vs hts c87 else hno b hb1 (by omega)⟩⟩) (by omega)
        · exact ⟨Nat.le_refl _, hf.2.1, Or.inl ⟨rfl, fun b hb1 hb2 => absurd hb1 (by omega)⟩⟩
    · exact ⟨hV, by unfold rmL; rw [if_neg c10]⟩
  · refine j_aload_n (pc' := 14) C dX8_nextPath_13 rfl 0 rfl ?_
    refine j_dup (pc' := 15) C dX8_nextPath_14 rfl rfl ?_
    refine j_get (v := .int (mI d)) (pc' := 18) C KX8 0 21 rfl (by decide) fl_X8_160 rfl rfl dX8_nextPath_15 rfl ?_
    refine j_iconst (v := (nI 1)) (pc' := 19) C dX8_nextPath_18 rfl (by decide +kernel) ?_
    refine j_isub (v := (mI (d - 1))) (pc' := 20) C dX8_nextPath_19 rfl (mI_d (by omega)) ?_
    refine j_put (pc' := 23) C [(a0, .inr (8, [.int th, .ref aX, .int ty, .int sp, .int tk, .int pl, .int va, .int fa, .ref aT, .ref aD, .ref aS, .ref aU, .int um, .ref aK, .ref aI, .ref aL, .ref aE, .ref aF, .int sm, .ref aP, .ref aW, .int (mI (d - 1)), .ref aB, .ref aM])), (aT, .inl (cyI, 42, .inl (nA t))), (aS, .inl (cyI, 30, .inl (nA s))), (aP, .inl (cyI, 8, .inl (sA stp))), (aW, .inl (cyI, 8, .inl (nA wh)))] KX8 0 21 rfl (by decide) fl_X8_160 rfl rfl rfl rfl (Nat.le_of_ble_eq_true rfl) dX8_nextPath_20 rfl rfl ?_
    refine j_lsub [(0, .ref a0), (1, .int (nI g))] [0, 1] rfl ?_
    refine j_loop3 (fun (d2 : Nat) (w2 : Nat → Nat) (p2 : Nat → Nat) => [(a0, .inr (8, [.int th, .ref aX, .int ty, .int sp, .int tk, .int pl, .int va, .int fa, .ref aT, .ref aD, .ref aS, .ref aU, .int um, .ref aK, .ref aI, .ref aL, .ref aE, .ref aF, .int sm, .ref aP, .ref aW, .int (mI d2), .ref aB, .ref aM])), (aT, .inl (cyI, 42, .inl (nA t))), (aS, .inl (cyI, 30, .inl (nA s))), (aP, .inl (cyI, 8, .inl (sA p2))), (aW, .inl (cyI, 8, .inl (nA w2)))]) (fun (d2 : Nat) (w2 : Nat → Nat) (p2 : Nat → Nat) => [(0, .ref a0), (1, .int (nI g))]) (fun (d2 : Nat) (w2 : Nat → Nat) (p2 : Nat → Nat) => []) (fun (d2 : Nat) (w2 : Nat → Nat) (p2 : Nat → Nat) => VP t w2 p2 d2 ∧ remL t s g w2 p2 d2 = rmL t s g wh stp d) (fun (d2 : Nat) (w2 : Nat → Nat) (p2 : Nat → Nat) => muN p2 d2) ?_ (d - 1) wh stp ?_
    · intro d2 w2 p2 hI23 ih23
      obtain ⟨hV2, hR⟩ := hI23
      refine j_aload_n (pc' := 24) C dX8_nextPath_23 rfl 0 rfl ?_
      refine j_get (v := .int (mI d2)) (pc' := 27) C KX8 0 21 rfl (by decide) fl_X8_160 rfl rfl dX8_nextPath_24 rfl ?_
      refine j_m_lt (pc' := 30) C 174 dX8_nextPath_27 (by decide) rfl (by have := hV2.1; omega) (fun c27 => ?_) (fun c27 => ?_)
      · refine j_iconst (v := (nI 0)) (pc' := 175) C dX8_nextPath_174 rfl (by decide +kernel) ?_
        refine j_top (bI false) (by decide +kernel) ?_
        exact j_iret C hr hk hA dX8_nextPath_175 (nrw_bI _) (⟨d2, w2, p2, _, rfl, rfl, hV2, Or.inl ⟨rfl, by rw [← hR, c27]; rfl⟩⟩)
      · have hf := hV2.2.1 (d2 - 1) (by omega)
        have hd7 := hV2.1
        refine j_aload_n (pc' := 31) C dX8_nextPath_30 rfl 0 rfl ?_
        refine j_get (v := .ref aP) (pc' := 34) C KX8 0 19 rfl (by decide) fl_X8_41 rfl rfl dX8_nextPath_31 rfl ?_
        refine j_aload_n (pc' := 35) C dX8_nextPath_34 rfl 0 rfl ?_
        refine j_get (v := .int (mI d2)) (pc' := 38) C KX8 0 21 rfl (by decide) fl_X8_160 rfl rfl dX8_nextPath_35 rfl ?_
        refine j_top (nI (d2 - 1)) (mI_n (by omega)) ?_
        refine j_sald (pc' := 39) C 3 rfl (by omega) (by decide) dX8_nextPath_38 rfl ?_
        refine j_iconst (v := (nI 1)) (pc' := 40) C dX8_nextPath_39 rfl (by decide +kernel) ?_
        refine j_iadd (v := (nI (p2 (d2 - 1)))) (pc' := 41) C dX8_nextPath_40 rfl (mI_i (p2 (d2 - 1))) ?_
        refine j_istore_n (pc' := 42) C [(2, .int (nI (p2 (d2 - 1)))), (0, .ref a0), (1, .int (nI g))] dX8_nextPath_41 rfl (by decide) rfl ?_
        refine j_bipush (v := (-9)) (pc' := 44) C dX8_nextPath_42 rfl (by decide +kernel) ?_
        refine j_istore_n (pc' := 45) C [(3, .int (-9)), (2, .int (nI (p2 (d2 - 1)))), (0, .ref a0), (1, .int (nI g))] dX8_nextPath_44 rfl (by decide) rfl ?_
        refine j_lsub [(0, .ref a0), (1, .int (nI g)), (2, .int (nI (p2 (d2 - 1)))), (3, .int (-9))] [2, 3, 1, 0] rfl ?_
        refine j_loop2 (fun (c : Nat) (to : Int32) => [(a0, .inr (8, [.int th, .ref aX, .int ty, .int sp, .int tk, .int pl, .int va, .int fa, .ref aT, .ref aD, .ref aS, .ref aU, .int um, .ref aK, .ref aI, .ref aL, .ref aE, .ref aF, .int sm, .ref aP, .ref aW, .int (mI d2), .ref aB, .ref aM])), (aT, .inl (cyI, 42, .inl (nA t))), (aS, .inl (cyI, 30, .inl (nA s))), (aP, .inl (cyI, 8, .inl (sA p2))), (aW, .inl (cyI, 8, .inl (nA w2)))]) (fun (c : Nat) (to : Int32) => [(0, .ref a0), (1, .int (nI g)), (2, .int (nI c)), (3, .int to)]) (fun (c : Nat) (to : Int32) => []) (fun (c : Nat) (to : Int32) => p2 (d2 - 1) ≤ c ∧ c ≤ t 1 ∧ ((to = -9 ∧ ∀ b, p2 (d2 - 1) ≤ b → b < c → nxB t s (vsN w2 d2) (w2 (d2 - 1)) b = none) ∨ (∃ v, to = nI v ∧ p2 (d2 - 1) < c ∧ nxB t s (vsN w2 d2) (w2 (d2 - 1)) (c - 1) = some v ∧ ∀ b, p2 (d2 - 1) ≤ b → b < c - 1 → nxB t s (vsN w2 d2) (w2 (d2 - 1)) b = none))) (fun (c : Nat) (to : Int32) => t 1 - c) ?_ (p2 (d2 - 1)) (-9) ?_
        · intro c to hI45 ih45
          obtain ⟨hc1, hc2, hto⟩ := hI45
          refine j_iload_n (pc' := 46) C dX8_nextPath_45 rfl 2 rfl ?_
          refine j_aload_n (pc' := 47) C dX8_nextPath_46 rfl 0 rfl ?_
          refine j_get (v := .ref aT) (pc' := 50) C KX8 0 8 rfl (by decide) fl_X8_13 rfl rfl dX8_nextPath_47 rfl ?_
          refine j_iconst (v := (nI 1)) (pc' := 51) C dX8_nextPath_50 rfl (by decide +kernel) ?_
          refine j_nald (pc' := 52) C 1 rfl (by omega) (by decide) dX8_nextPath_51 rfl ?_
          refine j_nc_ge (pc' := 55) C 103 dX8_nextPath_52 (by decide) rfl (by omega) (by omega) (fun c52 => ?_) (fun c52 => ?_)
          · rcases hto with ⟨rfl, hno⟩ | ⟨v, rfl, hlt, hv, hno⟩
            · have hpp := np_pop (g := g) (c := c) hT hV2 c27 (fun b hb1 hb2 => hno b hb1 (by omega))
              have hdn := hpp.2.2
              refine j_aload_n (pc' := 104) C dX8_nextPath_103 rfl 0 rfl ?_
              refine j_get (v := .ref aP) (pc' := 107) C KX8 0 19 rfl (by decide) fl_X8_41 rfl rfl dX8_nextPath_104 rfl ?_
              refine j_aload_n (pc' := 108) C dX8_nextPath_107 rfl 0 rfl ?_
              refine j_get (v := .int (mI d2)) (pc' := 111) C KX8 0 21 rfl (by decide) fl_X8_160 rfl rfl dX8_nextPath_108 rfl ?_
              refine j_top (nI (d2 - 1)) (mI_n (by omega)) ?_
              refine j_iload_n (pc' := 112) C dX8_nextPath_111 rfl 2 rfl ?_
              refine j_iconst (v := (nI 1)) (pc' := 113) C dX8_nextPath_112 rfl (by decide +kernel) ?_
              refine j_isub (v := (mI c)) (pc' := 114) C dX8_nextPath_113 rfl (rfl) ?_
              refine j_sast (pc' := 115) C [(a0, .inr (8, [.int th, .ref aX, .int ty, .int sp, .int tk, .int pl, .int va, .int fa, .ref aT, .ref aD, .ref aS, .ref aU, .int um, .ref aK, .ref aI, .ref aL, .ref aE, .ref aF, .int sm, .ref aP, .ref aW, .int (mI d2), .ref aB, .ref aM])), (aT, .inl (cyI, 42, .inl (nA t))), (aS, .inl (cyI, 30, .inl (nA s))), (aP, .inl (cyI, 8, .inl (sA (uN p2 (d2 - 1) c)))), (aW, .inl (cyI, 8, .inl (nA w2)))] 3 rfl (by omega) (by decide) dX8_nextPath_114 rfl rfl ?_
              refine j_iload_n (pc' := 116) C dX8_nextPath_115 rfl 3 rfl ?_
              refine j_bipush (v := (-9)) (pc' := 118) C dX8_nextPath_116 rfl (by decide +kernel) ?_
              refine j_ic_ne (pc' := 121) C 134 dX8_nextPath_118 (by decide) rfl (fun c118 => ?_) (fun c118 => ?_)
              · exact absurd c118 (by decide +kernel)
              · refine j_aload_n (pc' := 122) C dX8_nextPath_121 rfl 0 rfl ?_
                refine j_dup (pc' := 123) C dX8_nextPath_122 rfl rfl ?_
                refine j_get (v := .int (mI d2)) (pc' := 126) C KX8 0 21 rfl (by decide) fl_X8_160 rfl rfl dX8_nextPath_123 rfl ?_
                refine j_iconst (v := (nI 1)) (pc' := 127) C dX8_nextPath_126 rfl (by decide +kernel) ?_
                refine j_isub (v := (mI (d2 - 1))) (pc' := 128) C dX8_nextPath_127 rfl (mI_d (by omega)) ?_
                refine j_put (pc' := 131) C [(a0, .inr (8, [.int th, .ref aX, .int ty, .int sp, .int tk, .int pl, .int va, .int fa, .ref aT, .ref aD, .ref aS, .ref aU, .int um, .ref aK, .ref aI, .ref aL, .ref aE, .ref aF, .int sm, .ref aP, .ref aW, .int (mI (d2 - 1)), .ref aB, .ref aM])), (aT, .inl (cyI, 42, .inl (nA t))), (aS, .inl (cyI, 30, .inl (nA s))), (aP, .inl (cyI, 8, .inl (sA (uN p2 (d2 - 1) c)))), (aW, .inl (cyI, 8, .inl (nA w2)))] KX8 0 21 rfl (by decide) fl_X8_160 rfl rfl rfl rfl (Nat.le_of_ble_eq_true rfl) dX8_nextPath_128 rfl rfl ?_
                refine j_goto C 171 dX8_nextPath_131 (by decide) ?_
                refine j_goto C 23 dX8_nextPath_171 (by decide) ?_
                refine j_lsub [(0, .ref a0), (1, .int (nI g))] [0, 1] rfl ?_
                exact ih23 (d2 - 1) w2 (uN p2 (d2 - 1) c) (⟨hpp.1, hpp.2.1.symm.trans hR⟩) (hdn)
            · have hv7 := (toB_lt hT (by omega) (nxB_to hv).1)
              have hpp := np_push (g := g) hT hV2 c27 hlt hc2 hv hno
              have hdn := hpp.2.2.2
              refine j_aload_n (pc' := 104) C dX8_nextPath_103 rfl 0 rfl ?_
              refine j_get (v := .ref aP) (pc' := 107) C KX8 0 19 rfl (by decide) fl_X8_41 rfl rfl dX8_nextPath_104 rfl ?_
              refine j_aload_n (pc' := 108) C dX8_nextPath_107 rfl 0 rfl ?_
              refine j_get (v := .int (mI d2)) (pc' := 111) C KX8 0 21 rfl (by decide) fl_X8_160 rfl rfl dX8_nextPath_108 rfl ?_
              refine j_top (nI (d2 - 1)) (mI_n (by omega)) ?_
              refine j_iload_n (pc' := 112) C dX8_nextPath_111 rfl 2 rfl ?_
              refine j_iconst (v := (nI 1)) (pc' := 113) C dX8_nextPath_112 rfl (by decide +kernel) ?_
              refine j_isub (v := (mI c)) (pc' := 114) C dX8_nextPath_113 rfl (rfl) ?_
              refine j_sast (pc' := 115) C [(a0, .inr (8, [.int th, .ref aX, .int ty, .int sp, .int tk, .int pl, .int va, .int fa, .ref aT, .ref aD, .ref aS, .ref aU, .int um, .ref aK, .ref aI, .ref aL, .ref aE, .ref aF, .int sm, .ref aP, .ref aW, .int (mI d2), .ref aB, .ref aM])), (aT, .inl (cyI, 42, .inl (nA t))), (aS, .inl (cyI, 30, .inl (nA s))), (aP, .inl (cyI, 8, .inl (sA (uN p2 (d2 - 1) c)))), (aW, .inl (cyI, 8, .inl (nA w2)))] 3 rfl (by omega) (by decide) dX8_nextPath_114 rfl rfl ?_
              refine j_iload_n (pc' := 116) C dX8_nextPath_115 rfl 3 rfl ?_
              refine j_bipush (v := (-9)) (pc' := 118) C dX8_nextPath_116 rfl (by decide +kernel) ?_
              refine j_ic_ne (pc' := 121) C 134 dX8_nextPath_118 (by decide) rfl (fun c118 => ?_) (fun c118 => ?_)
              · refine j_aload_n (pc' := 135) C dX8_nextPath_134 rfl 0 rfl ?_
                refine j_dup (pc' := 136) C dX8_nextPath_135 rfl rfl ?_
                refine j_get (v := .int (mI d2)) (pc' := 139) C KX8 0 21 rfl (by decide) fl_X8_160 rfl rfl dX8_nextPath_136 rfl ?_
                refine j_iconst (v := (nI 1)) (pc' := 140) C dX8_nextPath_139 rfl (by decide +kernel) ?_
                refine j_iadd (v := (nI d2)) (pc' := 141) C dX8_nextPath_140 rfl (mI_i d2) ?_
                refine j_top (mI (d2 + 1)) (mI_s d2) ?_
                refine j_put (pc' := 144) C [(a0, .inr (8, [.int th, .ref aX, .int ty, .int sp, .int tk, .int pl, .int va, .int fa, .ref aT, .ref aD, .ref aS, .ref aU, .int um, .ref aK, .ref aI, .ref aL, .ref aE, .ref aF, .int sm, .ref aP, .ref aW, .int (mI (d2 + 1)), .ref aB, .ref aM])), (aT, .inl (cyI, 42, .inl (nA t))), (aS, .inl (cyI, 30, .inl (nA s))), (aP, .inl (cyI, 8, .inl (sA (uN p2 (d2 - 1) c)))), (aW, .inl (cyI, 8, .inl (nA w2)))] KX8 0 21 rfl (by decide) fl_X8_160 rfl rfl rfl rfl (Nat.le_of_ble_eq_true rfl) dX8_nextPath_141 rfl rfl ?_
                refine j_aload_n (pc' := 145) C dX8_nextPath_144 rfl 0 rfl ?_
                refine j_get (v := .ref aW) (pc' := 148) C KX8 0 20 rfl (by decide) fl_X8_44 rfl rfl dX8_nextPath_145 rfl ?_
                refine j_aload_n (pc' := 149) C dX8_nextPath_148 rfl 0 rfl ?_
                refine j_get (v := .int (mI (d2 + 1))) (pc' := 152) C KX8 0 21 rfl (by decide) fl_X8_160 rfl rfl dX8_nextPath_149 rfl ?_
                refine j_top (nI d2) ((mI_s d2).symm) ?_
                refine j_iload_n (pc' := 153) C dX8_nextPath_152 rfl 3 rfl ?_
                refine j_nast (pc' := 154) C [(a0, .inr (8, [.int th, .ref aX, .int ty, .int sp, .int tk, .int pl, .int va, .int fa, .ref aT, .ref aD, .ref aS, .ref aU, .int um, .ref aK, .ref aI, .ref aL, .ref aE, .ref aF, .int sm, .ref aP, .ref aW, .int (mI (d2 + 1)), .ref aB, .ref aM])), (aT, .inl (cyI, 42, .inl (nA t))), (aS, .inl (cyI, 30, .inl (nA s))), (aP, .inl (cyI, 8, .inl (sA (uN p2 (d2 - 1) c)))), (aW, .inl (cyI, 8, .inl (nA (uN w2 d2 v))))] 4 rfl (by omega) (by decide) dX8_nextPath_153 rfl rfl ?_
                refine j_aload_n (pc' := 155) C dX8_nextPath_154 rfl 0 rfl ?_
                refine j_get (v := .ref aP) (pc' := 158) C KX8 0 19 rfl (by decide) fl_X8_41 rfl rfl dX8_nextPath_155 rfl ?_
                refine j_aload_n (pc' := 159) C dX8_nextPath_158 rfl 0 rfl ?_
                refine j_get (v := .int (mI (d2 + 1))) (pc' := 162) C KX8 0 21 rfl (by decide) fl_X8_160 rfl rfl dX8_nextPath_159 rfl ?_
                refine j_top (nI d2) ((mI_s d2).symm) ?_
                refine j_iconst (v := (-1)) (pc' := 163) C dX8_nextPath_162 rfl (by decide +kernel) ?_
                refine j_top (mI 0) (by decide +kernel) ?_
                refine j_sast (pc' := 164) C [(a0, .inr (8, [.int th, .ref aX, .int ty, .int sp, .int tk, .int pl, .int va, .int fa, .ref aT, .ref aD, .ref aS, .ref aU, .int um, .ref aK, .ref aI, .ref aL, .ref aE, .ref aF, .int sm, .ref aP, .ref aW, .int (mI (d2 + 1)), .ref aB, .ref aM])), (aT, .inl (cyI, 42, .inl (nA t))), (aS, .inl (cyI, 30, .inl (nA s))), (aP, .inl (cyI, 8, .inl (sA (uN (uN p2 (d2 - 1) c) d2 0)))), (aW, .inl (cyI, 8, .inl (nA (uN w2 d2 v))))] 3 rfl (by omega) (by decide) dX8_nextPath_163 rfl rfl ?_
                refine j_iload_n (pc' := 165) C dX8_nextPath_164 rfl 3 rfl ?_
                refine j_iload_n (pc' := 166) C dX8_nextPath_165 rfl 1 rfl ?_
                refine j_nc_ne (pc' := 169) C 171 dX8_nextPath_166 (by decide) rfl (by omega) (by omega) (fun c166 => ?_) (fun c166 => ?_)
                · refine j_goto C 23 dX8_nextPath_171 (by decide) ?_
                  refine j_lsub [(0, .ref a0), (1, .int (nI g))] [0, 1] rfl ?_
                  exact ih23 (d2 + 1) (uN w2 d2 v) (uN (uN p2 (d2 - 1) c) d2 0) (⟨hpp.1, (hpp.2.1 c166).symm.trans hR⟩) (hdn)
                · refine j_iconst (v := (nI 1)) (pc' := 170) C dX8_nextPath_169 rfl (by decide +kernel) ?_
                  refine j_top (bI true) (by decide +kernel) ?_
                  exact j_iret C hr hk hA dX8_nextPath_170 (nrw_bI _) (⟨d2 + 1, uN w2 d2 v, uN (uN p2 (d2 - 1) c) d2 0, _, rfl, rfl, hpp.1, Or.inr ⟨rfl, by omega, by rw [Nat.add_sub_cancel, uN_s]; exact c166, by rw [← hR, hpp.2.2.1 c166, Nat.add_sub_cancel]⟩⟩)
              · exact absurd c118 (fun q9 => q9 (n9 (by omega)))
          · refine j_iload_n (pc' := 56) C dX8_nextPath_55 rfl 3 rfl ?_
            refine j_bipush (v := (-9)) (pc' := 58) C dX8_nextPath_56 rfl (by decide +kernel) ?_
            refine j_ic_ne (pc' := 61) C 103 dX8_nextPath_58 (by decide) rfl (fun c58 => ?_) (fun c58 => ?_)
            · rcases hto with ⟨rfl, hno⟩ | ⟨v, rfl, hlt, hv, hno⟩
              · exact absurd rfl c58
              · have hv7 := (toB_lt hT (by omega) (nxB_to hv).1)
                have hpp := np_push (g := g) hT hV2 c27 hlt hc2 hv hno
                have hdn := hpp.2.2.2
                refine j_aload_n (pc' := 104) C dX8_nextPath_103 rfl 0 rfl ?_
                refine j_get (v := .ref aP) (pc' := 107) C KX8 0 19 rfl (by decide) fl_X8_41 rfl rfl dX8_nextPath_104 rfl ?_
                refine j_aload_n (pc' := 108) C dX8_nextPath_107 rfl 0 rfl ?_
                refine j_get (v := .int (mI d2)) (pc' := 111) C KX8 0 21 rfl (by decide) fl_X8_160 rfl rfl dX8_nextPath_108 rfl ?_
                refine j_top (nI (d2 - 1)) (mI_n (by omega)) ?_
                refine j_iload_n (pc' := 112) C dX8_nextPath_111 rfl 2 rfl ?_
                refine j_iconst (v := (nI 1)) (pc' := 113) C dX8_nextPath_112 rfl (by decide +kernel) ?_
                refine j_isub (v := (mI c)) (pc' := 114) C dX8_nextPath_113 rfl (rfl) ?_
                refine j_sast (pc' := 115) C [(a0, .inr (8, [.int th, .ref aX, .int ty, .int sp, .int tk, .int pl, .int va, .int fa, .ref aT, .ref aD, .ref aS, .ref aU, .int um, .ref aK, .ref aI, .ref aL, .ref aE, .ref aF, .int sm, .ref aP, .ref aW, .int (mI d2), .ref aB, .ref aM])), (aT, .inl (cyI, 42, .inl (nA t))), (aS, .inl (cyI, 30, .inl (nA s))), (aP, .inl (cyI, 8, .inl (sA (uN p2 (d2 - 1) c)))), (aW, .inl (cyI, 8, .inl (nA w2)))] 3 rfl (by omega) (by decide) dX8_nextPath_114 rfl rfl ?_
                refine j_iload_n (pc' := 116) C dX8_nextPath_115 rfl 3 rfl ?_
                refine j_bipush (v := (-9)) (pc' := 118) C dX8_nextPath_116 rfl (by decide +kernel) ?_
                refine j_ic_ne (pc' := 121) C 134 dX8_nextPath_118 (by decide) rfl (fun c118 => ?_) (fun c118 => ?_)
                · refine j_aload_n (pc' := 135) C dX8_nextPath_134 rfl 0 rfl ?_
                  refine j_dup (pc' := 136) C dX8_nextPath_135 rfl rfl ?_
                  refine j_get (v := .int (mI d2)) (pc' := 139) C KX8 0 21 rfl (by decide) fl_X8_160 rfl rfl dX8_nextPath_136 rfl ?_
                  refine j_iconst (v := (nI 1)) (pc' := 140) C dX8_nextPath_139 rfl (by decide +kernel) ?_
                  refine j_iadd (v := (nI d2)) (pc' := 141) C dX8_nextPath_140 rfl (mI_i d2) ?_
                  refine j_top (mI (d2 + 1)) (mI_s d2) ?_
                  refine j_put (pc' := 144) C [(a0, .inr (8, [.int th, .ref aX, .int ty, .int sp, .int tk, .int pl, .int va, .int fa, .ref aT, .ref aD, .ref aS, .ref aU, .int um, .ref aK, .ref aI, .ref aL, .ref aE, .ref aF, .int sm, .ref aP, .ref aW, .int (mI (d2 + 1)), .ref aB, .ref aM])), (aT, .inl (cyI, 42, .inl (nA t))), (aS, .inl (cyI, 30, .inl (nA s))), (aP, .inl (cyI, 8, .inl (sA (uN p2 (d2 - 1) c)))), (aW, .inl (cyI, 8, .inl (nA w2)))] KX8 0 21 rfl (by decide) fl_X8_160 rfl rfl rfl rfl (Nat.le_of_ble_eq_true rfl) dX8_nextPath_141 rfl rfl ?_
                  refine j_aload_n (pc' := 145) C dX8_nextPath_144 rfl 0 rfl ?_
                  refine j_get (v := .ref aW) (pc' := 148) C KX8 0 20 rfl (by decide) fl_X8_44 rfl rfl dX8_nextPath_145 rfl ?_
                  refine j_aload_n (pc' := 149) C dX8_nextPath_148 rfl 0 rfl ?_
                  refine j_get (v := .int (mI (d2 + 1))) (pc' := 152) C KX8 0 21 rfl (by decide) fl_X8_160 rfl rfl dX8_nextPath_149 rfl ?_
                  refine j_top (nI d2) ((mI_s d2).symm) ?_
                  refine j_iload_n (pc' := 153) C dX8_nextPath_152 rfl 3 rfl ?_
                  refine j_nast (pc' := 154) C [(a0, .inr (8, [.int th, .ref aX, .int ty, .int sp, .int tk, .int pl, .int va, .int fa, .ref aT, .ref aD, .ref aS, .ref aU, .int um, .ref aK, .ref aI, .ref aL, .ref aE, .ref aF, .int sm, .ref aP, .ref aW, .int (mI (d2 + 1)), .ref aB, .ref aM])), (aT, .inl (cyI, 42, .inl (nA t))), (aS, .inl (cyI, 30, .inl (nA s))), (aP, .inl (cyI, 8, .inl (sA (uN p2 (d2 - 1) c)))), (aW, .inl (cyI, 8, .inl (nA (uN w2 d2 v))))] 4 rfl (by omega) (by decide) dX8_nextPath_153 rfl rfl ?_
                  refine j_aload_n (pc' := 155) C dX8_nextPath_154 rfl 0 rfl ?_
                  refine j_get (v := .ref aP) (pc' := 158) C KX8 0 19 rfl (by decide) fl_X8_41 rfl rfl dX8_nextPath_155 rfl ?_
                  refine j_aload_n (pc' := 159) C dX8_nextPath_158 rfl 0 rfl ?_
                  refine j_get (v := .int (mI (d2 + 1))) (pc' := 162) C KX8 0 21 rfl (by decide) fl_X8_160 rfl rfl dX8_nextPath_159 rfl ?_
                  refine j_top (nI d2) ((mI_s d2).symm) ?_
                  refine j_iconst (v := (-1)) (pc' := 163) C dX8_nextPath_162 rfl (by decide +kernel) ?_
                  refine j_top (mI 0) (by decide +kernel) ?_
                  refine j_sast (pc' := 164) C [(a0, .inr (8, [.int th, .ref aX, .int ty, .int sp, .int tk, .int pl, .int va, .int fa, .ref aT, .ref aD, .ref aS, .ref aU, .int um, .ref aK, .ref aI, .ref aL, .ref aE, .ref aF, .int sm, .ref aP, .ref aW, .int (mI (d2 + 1)), .ref aB, .ref aM])), (aT, .inl (cyI, 42, .inl (nA t))), (aS, .inl (cyI, 30, .inl (nA s))), (aP, .inl (cyI, 8, .inl (sA (uN (uN p2 (d2 - 1) c) d2 0)))), (aW, .inl (cyI, 8, .inl (nA (uN w2 d2 v))))] 3 rfl (by omega) (by decide) dX8_nextPath_163 rfl rfl ?_
                  refine j_iload_n (pc' := 165) C dX8_nextPath_164 rfl 3 rfl ?_
                  refine j_iload_n (pc' := 166) C dX8_nextPath_165 rfl 1 rfl ?_
                  refine j_nc_ne (pc' := 169) C 171 dX8_nextPath_166 (by decide) rfl (by omega) (by omega) (fun c166 => ?_) (fun c166 => ?_)
                  · refine j_goto C 23 dX8_nextPath_171 (by decide) ?_
                    refine j_lsub [(0, .ref a0), (1, .int (nI g))] [0, 1] rfl ?_
                    exact ih23 (d2 + 1) (uN w2 d2 v) (uN (uN p2 (d2 - 1) c) d2 0) (⟨hpp.1, (hpp.2.1 c166).symm.trans hR⟩) (hdn)
                  · refine j_iconst (v := (nI 1)) (pc' := 170) C dX8_nextPath_169 rfl (by decide +kernel) ?_
                    refine j_top (bI true) (by decide +kernel) ?_
                    exact j_iret C hr hk hA dX8_nextPath_170 (nrw_bI _) (⟨d2 + 1, uN w2 d2 v, uN (uN p2 (d2 - 1) c) d2 0, _, rfl, rfl, hpp.1, Or.inr ⟨rfl, by omega, by rw [Nat.add_sub_cancel, uN_s]; exact c166, by rw [← hR, hpp.2.2.1 c166, Nat.add_sub_cancel]⟩⟩)
                · exact absurd c118 (fun q9 => q9 (n9 (by omega)))
            · have hno : ∀ b, p2 (d2 - 1) ≤ b → b < c → nxB t s (vsN w2 d2) (w2 (d2 - 1)) b = none := by
                rcases hto with ⟨_, hno⟩ | ⟨v, hv, _, hnx, _⟩
                · exact hno
                · exact absurd (hv.symm.trans (Classical.not_not.mp c58)) (n9 (by have := toB_lt hT (by omega) (nxB_to hnx).1; omega))
              refine j_aload_n (pc' := 62) C dX8_nextPath_61 rfl 0 rfl ?_
              refine j_iload_n (pc' := 63) C dX8_nextPath_62 rfl 2 rfl ?_
              refine j_aload_n (pc' := 64) C dX8_nextPath_63 rfl 0 rfl ?_
              refine j_get (v := .ref aW) (pc' := 67) C KX8 0 20 rfl (by decide) fl_X8_44 rfl rfl dX8_nextPath_64 rfl ?_
              refine j_aload_n (pc' := 68) C dX8_nextPath_67 rfl 0 rfl ?_
              refine j_get (v := .int (mI d2)) (pc' := 71) C KX8 0 21 rfl (by decide) fl_X8_160 rfl rfl dX8_nextPath_68 rfl ?_
              refine j_top (nI (d2 - 1)) (mI_n (by omega)) ?_
              refine j_nald (pc' := 72) C 4 rfl (by omega) (by decide) dX8_nextPath_71 rfl ?_
              refine j_cVi (As := [.int (nI c), .int (nI (w2 (d2 - 1)))]) (wr := [(aP, .inl (cyI, 8, .inl (sA p2))), (aW, .inl (cyI, 8, .inl (nA w2)))]) (pc' := 75) C (c_X8_toBy (a0 := a0) (th := th) (aX := aX) (ty := ty) (sp := sp) (tk := tk) (pl := pl) (va := va) (fa := fa) (aT := aT) (aD := aD) (aS := aS) (aU := aU) (um := um) (aK := aK) (aI := aI) (aL := aL) (aE := aE) (aF := aF) (sm := sm) (aP := aP) (aW := aW) (sn := (mI d2)) (aB := aB) (aM := aM) (t := t) (s := s) (c := c) (a := w2 (d2 - 1)) (hT := by first | assumption | omega) (hS := by first | assumption | omega) (hc := by first | assumption | omega) (ha := by omega)) Y_X8_toBy (ml_X8_163) [0, 1, 2] [3, 4] rfl rfl rfl rfl (by decide) rfl rfl rfl dX8_nextPath_72 rfl rfl rfl (Nat.le_of_ble_eq_true rfl) ⟨Nat.le_of_ble_eq_true rfl, Nat.le_of_ble_eq_true rfl⟩ ⟨Nat.le_of_ble_eq_true rfl, Nat.le_of_ble_eq_true rfl⟩ ⟨rfl, rfl⟩ (fun r3 w1 hQ => ?_)
              obtain ⟨rfl, hF72⟩ := hQ
              refine j_perm [(a0, .inr (8, [.int th, .ref aX, .int ty, .int sp, .int tk, .int pl, .int va, .int fa, .ref aT, .ref aD, .ref aS, .ref aU, .int um, .ref aK, .ref aI, .ref aL, .ref aE, .ref aF, .int sm, .ref aP, .ref aW, .int (mI d2), .ref aB, .ref aM])), (aT, .inl (cyI, 42, .inl (nA t))), (aS, .inl (cyI, 30, .inl (nA s))), (aP, .inl (cyI, 8, .inl (sA p2))), (aW, .inl (cyI, 8, .inl (nA w2)))] [2, 3, 4, 0, 1] rfl rfl (by decide) ?_
              rcases hF72 with ⟨htn, rfl⟩ | ⟨v, hts, rfl, htv⟩
              · refine j_istore_n (pc' := 76) C [(3, .int (-9)), (0, .ref a0), (1, .int (nI g)), (2, .int (nI c))] dX8_nextPath_75 rfl (by decide) rfl ?_
                refine j_iload_n (pc' := 77) C dX8_nextPath_76 rfl 0 rfl ?_
                refine j_bipush (v := (-9)) (pc' := 79) C dX8_nextPath_77 rfl (by decide +kernel) ?_
                refine j_ic_eq (pc' := 82) C 95 dX8_nextPath_79 (by decide) rfl (fun c79 => ?_) (fun c79 => ?_)
                · refine j_iload_n (pc' := 96) C dX8_nextPath_95 rfl 0 rfl ?_
                  refine j_istore_n (pc' := 97) C [(3, .int (-9)), (0, .ref a0), (1, .int (nI g)), (2, .int (nI c))] dX8_nextPath_96 rfl (by decide) rfl ?_
                  refine j_iinc (v := (nI (c + 1))) (pc' := 100) C [(2, .int (nI (c + 1))), (3, .int (-9)), (0, .ref a0), (1, .int (nI g))] dX8_nextPath_97 rfl 3 rfl (inc_n c 1) (by decide) rfl ?_
                  refine j_goto C 45 dX8_nextPath_100 (by decide) ?_
                  refine j_lsub [(0, .ref a0), (1, .int (nI g)), (2, .int (nI (c + 1))), (3, .int (-9))] [2, 3, 0, 1] rfl ?_
                  exact ih45 (c + 1) (-9) (⟨by omega, by omega, Or.inl ⟨rfl, fun b hb1 hb2 => if hbe : b = c then by rw [hbe]; exact nxB_no htn else hno b hb1 (by omega)⟩⟩) (by omega)
                · exact absurd c79 (by decide +kernel)
              · refine j_istore_n (pc' := 76) C [(3, .int (nI v)), (0, .ref a0), (1, .int (nI g)), (2, .int (nI c))] dX8_nextPath_75 rfl (by decide) rfl ?_
                refine j_iload_n (pc' := 77) C dX8_nextPath_76 rfl 0 rfl ?_
                refine j_bipush (v := (-9)) (pc' := 79) C dX8_nextPath_77 rfl (by decide +kernel) ?_
                refine j_ic_eq (pc' := 82) C 95 dX8_nextPath_79 (by decide) rfl (fun c79 => ?_) (fun c79 => ?_)
                · exact absurd c79 (n9 (by omega))
                · refine j_aload_n (pc' := 83) C dX8_nextPath_82 rfl 1 rfl ?_
                  refine j_iload_n (pc' := 84) C dX8_nextPath_83 rfl 0 rfl ?_
                  refine j_cVi (As := [.int (nI v)]) (wr := [(aT, .inl (cyI, 42, .inl (nA t))), (aS, .inl (cyI, 30, .inl (nA s))), (aP, .inl (cyI, 8, .inl (sA p2)))]) (pc' := 87) C (c_X8_isOnPath (a0 := a0) (th := th) (aX := aX) (ty := ty) (sp := sp) (tk := tk) (pl := pl) (va := va) (fa := fa) (aT := aT) (aD := aD) (aS := aS) (aU := aU) (um := um) (aK := aK) (aI := aI) (aL := aL) (aE := aE) (aF := aF) (sm := sm) (aP := aP) (aW := aW) (aB := aB) (aM := aM) (wh := w2) (d := d2) (v := v) (hd := by omega) (hd8 := by omega) (hv := by first | assumption | omega) (hw7 := fun i hi => by have := (hV2.2.1 i hi).1; omega)) Y_X8_isOnPath (ml_X8_166) [0, 4] [1, 2, 3] rfl rfl rfl rfl (by decide) rfl rfl rfl dX8_nextPath_84 rfl rfl rfl (Nat.le_of_ble_eq_true rfl) ⟨Nat.le_of_ble_eq_true rfl, Nat.le_of_ble_eq_true rfl⟩ ⟨Nat.le_of_ble_eq_true rfl, Nat.le_of_ble_eq_true rfl⟩ ⟨rfl, rfl⟩ (fun r4 w1 hQ => ?_)
                  obtain ⟨rfl, rfl⟩ := hQ
                  refine j_perm [(a0, .inr (8, [.int th, .ref aX, .int ty, .int sp, .int tk, .int pl, .int va, .int fa, .ref aT, .ref aD, .ref aS, .ref aU, .int um, .ref aK, .ref aI, .ref aL, .ref aE, .ref aF, .int sm, .ref aP, .ref aW, .int (mI d2), .ref aB, .ref aM])), (aT, .inl (cyI, 42, .inl (nA t))), (aS, .inl (cyI, 30, .inl (nA s))), (aP, .inl (cyI, 8, .inl (sA p2))), (aW, .inl (cyI, 8, .inl (nA w2)))] [3, 0, 1, 2, 4] rfl rfl (by decide) ?_
                  refine j_b_eq (pc' := 90) C 95 dX8_nextPath_87 (by decide) rfl (fun c87 => ?_) (fun c87 => ?_)
                  · refine j_iload_n (pc' := 96) C dX8_nextPath_95 rfl 0 rfl ?_
                    refine j_istore_n (pc' := 97) C [(3, .int (nI v)), (0, .ref a0), (1, .int (nI g)), (2, .int (nI c))] dX8_nextPath_96 rfl (by decide) rfl ?_
                    refine j_iinc (v := (nI (c + 1))) (pc' := 100) C [(2, .int (nI (c + 1))), (3, .int (nI v)), (0, .ref a0), (1, .int (nI g))] dX8_nextPath_97 rfl 3 rfl (inc_n c 1) (by decide) rfl ?_
                    refine j_goto C 45 dX8_nextPath_100 (by decide) ?_
                    refine j_lsub [(0, .ref a0), (1, .int (nI g)), (2, .int (nI (c + 1))), (3, .int (nI v))] [2, 3, 0, 1] rfl ?_
                    exact ih45 (c + 1) (nI v) (⟨by omega, by omega, Or.inr ⟨v, rfl, by omega, by rw [Nat.add_sub_cancel]; exact nxB_ok hts c87, fun b hb1 hb2 => hno b hb1 (by omega)⟩⟩) (by omega)
                  · refine j_bipush (v := (-9)) (pc' := 92) C dX8_nextPath_90 rfl (by decide +kernel) ?_
                    refine j_goto C 96 dX8_nextPath_92 (by decide) ?_
                    refine j_istore_n (pc' := 97) C [(3, .int (-9)), (0, .ref a0), (1, .int (nI g)), (2, .int (nI c))] dX8_nextPath_96 rfl (by decide) rfl ?_
                    refine j_iinc (v := (nI (c + 1))) (pc' := 100) C [(2, .int (nI (c + 1))), (3, .int (-9)), (0, .ref a0), (1, .int (nI g))] dX8_nextPath_97 rfl 3 rfl (inc_n c 1) (by decide) rfl ?_
                    refine j_goto C 45 dX8_nextPath_100 (by decide) ?_
                    refine j_lsub [(0, .ref a0), (1, .int (nI g)), (2, .int (nI (c + 1))), (3, .int (-9))] [2, 3, 0, 1] rfl ?_
                    exact ih45 (c + 1) (-9) (⟨by omega, by omega, Or.inl ⟨rfl, fun b hb1 hb2 => if hbe : b = c then by rw [hbe]; exact nxB_vs hts c87 else hno b hb1 (by omega)⟩⟩) (by omega)
        · exact ⟨Nat.le_refl _, hf.2.1, Or.inl ⟨rfl, fun b hb1 hb2 => absurd hb1 (by omega)⟩⟩
    · exact ⟨⟨by omega, fun i hi => ⟨(hV.2.1 i (by omega)).1, (hV.2.1 i (by omega)).2.1, fun hi2 => (hV.2.1 i (by omega)).2.2 (by omega)⟩, fun i j hij hj => hV.2.2 i j hij (by omega)⟩, by unfold rmL; rw [if_pos c10]⟩

set_option maxHeartbeats 4000000 in
set_option maxRecDepth 100000 in
theorem c_X8_pathMany {lch : Launch} {dG : va_G} {cyI cyZ cyO : ClassId} (a0 : Nat) (th : Int32) (aX : Nat) (ty : Int32) (sp : Int32) (tk : Int32) (pl : Int32) (va : Int32) (fa : Int32) (aT : Nat) (aD : Nat) (aS : Nat) (aU : Nat) (um : Int32) (aK : Nat) (aI : Nat) (aL : Nat) (aE : Nat) (aF : Nat) (sm : Int32) (aP : Nat) (aW : Nat) (sn : Int32) (aB : Nat) (aM : Nat) (t : Nat → Nat) (s : Nat → Nat) (stp : Nat → Nat) (wh : Nat → Nat) (l : Nat) (hT : WT t) (hS : WS s) (hl : l < t 2) : Ki lch yX8_pathMany cX8_pathMany 3 .int (rmk 5) dG (cyI, cyZ, cyO) [.ref a0, .int (nI l)] [(a0, .inr (8, [.int th, .ref aX, .int ty, .int sp, .int tk, .int pl, .int va, .int fa, .ref aT, .ref aD, .ref aS, .ref aU, .int um, .ref aK, .ref aI, .ref aL, .ref aE, .ref aF, .int sm, .ref aP, .ref aW, .int sn, .ref aB, .ref aM])), (aT, .inl (cyI, 42, .inl (nA t))), (aS, .inl (cyI, 30, .inl (nA s))), (aP, .inl (cyI, 8, .inl (sA stp))), (aW, .inl (cyI, 8, .inl (nA wh)))] (fun r w1 => ∃ (d1 : Nat), ∃ (wh1 : Nat → Nat), ∃ (sp1 : Nat → Nat), w1 = [(a0, .inr (8, [.int th, .ref aX, .int ty, .int sp, .int tk, .int pl, .int va, .int fa, .ref aT, .ref aD, .ref aS, .ref aU, .int um, .ref aK, .ref aI, .ref aL, .ref aE, .ref aF, .int sm, .ref aP, .ref aW, .int (mI d1), .ref aB, .ref aM])), (aT, .inl (cyI, 42, .inl (nA t))), (aS, .inl (cyI, 30, .inl (nA s))), (aP, .inl (cyI, 8, .inl (sA sp1))), (aW, .inl (cyI, 8, .inl (nA wh1)))] ∧ r = (nI ((pAll t s l).length))) := by
  have h1 := hT.n
  have h2 := hT.l hl
  refine Ki.of (own := RX8) rfl (by decide) (Nat.le_of_ble_eq_true rfl) (fun p0 e0 s0 m0 ar0 be0 me0 cd0 A0 C hr hk hnm hA => ?_)
  refine j_lsub [(0, .ref a0), (1, .int (nI l))] [0, 1] rfl ?_
  refine j_iconst (v := (nI 0)) (pc' := 1) C dX8_pathMany_0 rfl (by decide +kernel) ?_
  refine j_istore_n (pc' := 2) C [(2, .int (nI 0)), (0, .ref a0), (1, .int (nI l))] dX8_pathMany_1 rfl (by decide) rfl ?_
  refine j_aload_n (pc' := 3) C dX8_pathMany_2 rfl 1 rfl ?_
  refine j_cVv (As := []) (wr := [(aT, .inl (cyI, 42, .inl (nA t))), (aS, .inl (cyI, 30, .inl (nA s)))]) (pc' := 6) C (c_X8_beginsPath (a0 := a0) (th := th) (aX := aX) (ty := ty) (sp := sp) (tk := tk) (pl := pl) (va := va) (fa := fa) (aT := aT) (aD := aD) (aS := aS) (aU := aU) (um := um) (aK := aK) (aI := aI) (aL := aL) (aE := aE) (aF := aF) (sm := sm) (aP := aP) (aW := aW) (sn := sn) (aB := aB) (aM := aM) (stp := stp) (wh := wh) ) Y_X8_beginsPath (ml_X8_169) [0, 3, 4] [1, 2] rfl rfl rfl rfl (by decide) rfl rfl rfl dX8_pathMany_3 rfl rfl rfl (Nat.le_of_ble_eq_true rfl) ⟨Nat.le_of_ble_eq_true rfl, Nat.le_of_ble_eq_true rfl⟩ ⟨Nat.le_of_ble_eq_true rfl, Nat.le_of_ble_eq_true rfl⟩ ⟨rfl, rfl⟩ (fun w1 hQ => ?_)
  obtain rfl := hQ
  refine j_perm [(a0, .inr (8, [.int th, .ref aX, .int ty, .int sp, .int tk, .int pl, .int va, .int fa, .ref aT, .ref aD, .ref aS, .ref aU, .int um, .ref aK, .ref aI, .ref aL, .ref aE, .ref aF, .int sm, .ref aP, .ref aW, .int (mI 1), .ref aB, .ref aM])), (aT, .inl (cyI, 42, .inl (nA t))), (aS, .inl (cyI, 30, .inl (nA s))), (aP, .inl (cyI, 8, .inl (sA (uN stp 0 0)))), (aW, .inl (cyI, 8, .inl (nA (uN wh 0 0))))] [2, 0, 1, 3, 4] rfl rfl (by decide) ?_
  refine j_lsub [(0, .ref a0), (1, .int (nI l)), (2, .int (nI 0))] [1, 2, 0] rfl ?_
  refine j_loop4 (fun (n : Nat) (d2 : Nat) (w2 : Nat → Nat) (p2 : Nat → Nat) => [(a0, .inr (8, [.int th, .ref aX, .int ty, .int sp, .int tk, .int pl, .int va, .int fa, .ref aT, .ref aD, .ref aS, .ref aU, .int um, .ref aK, .ref aI, .ref aL, .ref aE, .ref aF, .int sm, .ref aP, .ref aW, .int (mI d2), .ref aB, .ref aM])), (aT, .inl (cyI, 42, .inl (nA t))), (aS, .inl (cyI, 30, .inl (nA s))), (aP, .inl (cyI, 8, .inl (sA p2))), (aW, .inl (cyI, 8, .inl (nA w2)))]) (fun (n : Nat) (d2 : Nat) (w2 : Nat → Nat) (p2 : Nat → Nat) => [(0, .ref a0), (1, .int (nI l)), (2, .int (nI n))]) (fun (n : Nat) (d2 : Nat) (w2 : Nat → Nat) (p2 : Nat → Nat) => []) (fun (n : Nat) (d2 : Nat) (w2 : Nat → Nat) (p2 : Nat → Nat) => VP t w2 p2 d2 ∧ 1 ≤ d2 ∧ n + (rmL t s (t (39 + l)) w2 p2 d2).length = (pAll t s l).length) (fun (n : Nat) (d2 : Nat) (w2 : Nat → Nat) (p2 : Nat → Nat) => (rmL t s (t (39 + l)) w2 p2 d2).length) ?_ 0 1 (uN wh 0 0) (uN stp 0 0) ?_
  · intro n d2 w2 p2 hI6 ih6
    obtain ⟨hV, hd, hn⟩ := hI6
    refine j_aload_n (pc' := 7) C dX8_pathMany_6 rfl 0 rfl ?_
    refine j_aload_n (pc' := 8) C dX8_pathMany_7 rfl 0 rfl ?_
    refine j_get (v := .ref aT) (pc' := 11) C KX8 0 8 rfl (by decide) fl_X8_13 rfl rfl dX8_pathMany_8 rfl ?_
    refine j_bipush (v := (nI 39)) (pc' := 13) C dX8_pathMany_11 rfl (by decide +kernel) ?_
    refine j_iload_n (pc' := 14) C dX8_pathMany_13 rfl 1 rfl ?_
    refine j_iadd (v := (nI (39 + l))) (pc' := 15) C dX8_pathMany_14 rfl (nI_add 39 l) ?_
    refine j_nald (pc' := 16) C 1 rfl (by omega) (by decide) dX8_pathMany_15 rfl ?_
    refine j_cVi (As := [.int (nI (t (39 + l)))]) (wr := []) (pc' := 19) C (c_X8_nextPath (a0 := a0) (th := th) (aX := aX) (ty := ty) (sp := sp) (tk := tk) (pl := pl) (va := va) (fa := fa) (aT := aT) (aD := aD) (aS := aS) (aU := aU) (um := um) (aK := aK) (aI := aI) (aL := aL) (aE := aE) (aF := aF) (sm := sm) (aP := aP) (aW := aW) (aB := aB) (aM := aM) (t := t) (s := s) (stp := p2) (wh := w2) (d := d2) (g := t (39 + l)) (hT := by first | assumption | omega) (hS := by first | assumption | omega) (hV := by first | assumption | omega) (hd := by first | assumption | omega) (hg := by first | assumption | omega)) Y_X8_nextPath (ml_X8_172) [0, 1, 2, 3, 4] [] rfl rfl rfl rfl (by decide) rfl rfl rfl dX8_pathMany_16 rfl rfl rfl (Nat.le_of_ble_eq_true rfl) ⟨Nat.le_of_ble_eq_true rfl, Nat.le_of_ble_eq_true rfl⟩ ⟨Nat.le_of_ble_eq_true rfl, Nat.le_of_ble_eq_true rfl⟩ ⟨rfl, rfl⟩ (fun r2 w1 hQ => ?_)
    obtain ⟨d1_2, wh1_2, sp1_2, b_2, rfl, rfl, hF16⟩ := hQ
    refine j_b_eq (pc' := 22) C 28 dX8_pathMany_19 (by decide) rfl (fun c19 => ?_) (fun c19 => ?_)
    · have hx1 : rmL t s (t (39 + l)) w2 p2 d2 = [] := by
        rcases hF16.2 with ⟨_, q⟩ | ⟨q, _⟩
        · exact q
        · rw [c19] at q; cases q
      refine j_iload_n (pc' := 29) C dX8_pathMany_28 rfl 2 rfl ?_
      exact j_iret C hr hk hA dX8_pathMany_29 (rfl) (⟨_, _, _, rfl, by rw [← hn, hx1]; rfl⟩)
    · obtain ⟨hx2, hx3, hx4⟩ : 2 ≤ d1_2 ∧ wh1_2 (d1_2 - 1) = t (39 + l) ∧ rmL t s (t (39 + l)) w2 p2 d2 = preL sp1_2 (d1_2 - 1) :: remL t s (t (39 + l)) wh1_2 sp1_2 (d1_2 - 1) := by
        rcases hF16.2 with ⟨q, _⟩ | ⟨_, q⟩
        · rw [c19] at q; cases q
        · exact q
      refine j_iinc (v := (nI (n + 1))) (pc' := 25) C [(2, .int (nI (n + 1))), (0, .ref a0), (1, .int (nI l))] dX8_pathMany_22 rfl 2 rfl (inc_n n 1) (by decide) rfl ?_
      refine j_goto C 6 dX8_pathMany_25 (by decide) ?_
      refine j_lsub [(0, .ref a0), (1, .int (nI l)), (2, .int (nI (n + 1)))] [1, 2, 0] rfl ?_
      exact ih6 (n + 1) d1_2 wh1_2 sp1_2 (⟨hF16.1, by omega, by rw [rmL_g hx3]; rw [hx4, List.length_cons] at hn; omega⟩) (by rw [rmL_g hx3, hx4, List.length_cons]; omega)
  · exact ⟨VP_0 hT _ _, Nat.le_refl _, by rw [rmL_0 _ _ h2.1, Nat.zero_add]⟩

set_option maxHeartbeats 4000000 in
set_option maxRecDepth 100000 in
theorem c_X8_shutIn {lch : Launch} {dG : va_G} {cyI cyZ cyO : ClassId} (a0 : Nat) (th : Int32) (aX : Nat) (ty : Int32) (sp : Int32) (tk : Int32) (pl : Int32) (va : Int32) (fa : Int32) (aT : Nat) (aD : Nat) (aS : Nat) (aU : Nat) (um : Int32) (aK : Nat) (aI : Nat) (aL : Nat) (aE : Nat) (aF : Nat) (sm : Int32) (aP : Nat) (aW : Nat) (aB : Nat) (aM : Nat) (t : Nat → Nat) (s : Nat → Nat) (stp : Nat → Nat) (d : Nat) (hT : WT t) (hS : WS s) (hd : 1 ≤ d) (hd8 : d ≤ 8) (hp : ∀ i, i < d - 1 → 1 ≤ stp i ∧ stp i ≤ t 1) : Ki lch yX8_shutIn cX8_shutIn 5 .int (rmk 3) dG (cyI, cyZ, cyO) [.ref a0] [(a0, .inr (8, [.int th, .ref aX, .int ty, .int sp, .int tk, .int pl, .int va, .int fa, .ref aT, .ref aD, .ref aS, .ref aU, .int um, .ref aK, .ref aI, .ref aL, .ref aE, .ref aF, .int sm, .ref aP, .ref aW, .int (mI d), .ref aB, .ref aM])), (aT, .inl (cyI, 42, .inl (nA t))), (aS, .inl (cyI, 30, .inl (nA s))), (aP, .inl (cyI, 8, .inl (sA stp)))] (fun r w1 => w1 = [(a0, .inr (8, [.int th, .ref aX, .int ty, .int sp, .int tk, .int pl, .int va, .int fa, .ref aT, .ref aD, .ref aS, .ref aU, .int um, .ref aK, .ref aI, .ref aL, .ref aE, .ref aF, .int sm, .ref aP, .ref aW, .int (mI d), .ref aB, .ref aM])), (aT, .inl (cyI, 42, .inl (nA t))), (aS, .inl (cyI, 30, .inl (nA s))), (aP, .inl (cyI, 8, .inl (sA stp)))] ∧ r = (nI (shP t s (preL stp (d - 1))))) := by
  have h1 := hT.n
  refine Ki.of (own := RX8) rfl (by decide) (Nat.le_of_ble_eq_true rfl) (fun p0 e0 s0 m0 ar0 be0 me0 cd0 A0 C hr hk hnm hA => ?_)
  refine j_lsub [(0, .ref a0)] [0] rfl ?_
  refine j_iconst (v := (nI 0)) (pc' := 1) C dX8_shutIn_0 rfl (by decide +kernel) ?_
  refine j_istore_n (pc' := 2) C [(1, .int (nI 0)), (0, .ref a0)] dX8_shutIn_1 rfl (by decide) rfl ?_
  refine j_iconst (v := (nI 0)) (pc' := 3) C dX8_shutIn_2 rfl (by decide +kernel) ?_
  refine j_istore_n (pc' := 4) C [(2, .int (nI 0)), (1, .int (nI 0)), (0, .ref a0)] dX8_shutIn_3 rfl (by decide) rfl ?_
  refine j_lsub [(0, .ref a0), (1, .int (nI 0)), (2, .int (nI 0))] [2, 1, 0] rfl ?_
  refine j_loop2 (fun (i : Nat) (z : Nat) => [(a0, .inr (8, [.int th, .ref aX, .int ty, .int sp, .int tk, .int pl, .int va, .int fa, .ref aT, .ref aD, .ref aS, .ref aU, .int um, .ref aK, .ref aI, .ref aL, .ref aE, .ref aF, .int sm, .ref aP, .ref aW, .int (mI d), .ref aB, .ref aM])), (aT, .inl (cyI, 42, .inl (nA t))), (aS, .inl (cyI, 30, .inl (nA s))), (aP, .inl (cyI, 8, .inl (sA stp)))]) (fun (i : Nat) (z : Nat) => [(0, .ref a0), (1, .int (nI z)), (2, .int (nI i))]) (fun (i : Nat) (z : Nat) => []) (fun (i : Nat) (z : Nat) => i ≤ 16 ∧ z = bsN (fun st => (preL stp (d - 1)).all (fun c => shB t s c st)) i) (fun (i : Nat) (z : Nat) => 16 - i) ?_ 0 0 ?_
  · intro i z hI4 ih4
    obtain ⟨hi, hz⟩ := hI4
    refine j_iload_n (pc' := 5) C dX8_shutIn_4 rfl 2 rfl ?_
    refine j_bipush (v := (nI 16)) (pc' := 7) C dX8_shutIn_5 rfl (by decide +kernel) ?_
    refine j_nc_ge (pc' := 10) C 75 dX8_shutIn_7 (by decide) rfl (by omega) (by omega) (fun c7 => ?_) (fun c7 => ?_)
    · refine j_iload_n (pc' := 76) C dX8_shutIn_75 rfl 1 rfl ?_
      exact j_iret C hr hk hA dX8_shutIn_76 (rfl) (⟨rfl, by unfold shP; rw [hz, show i = 16 by omega]⟩)
    · refine j_iconst (v := (nI 1)) (pc' := 11) C dX8_shutIn_10 rfl (by decide +kernel) ?_
      refine j_istore_n (pc' := 12) C [(3, .int (nI 1)), (0, .ref a0), (1, .int (nI z)), (2, .int (nI i))] dX8_shutIn_11 rfl (by decide) rfl ?_
      refine j_iconst (v := (nI 0)) (pc' := 13) C dX8_shutIn_12 rfl (by decide +kernel) ?_
      refine j_istore (pc' := 15) C [(4, .int (nI 0)), (3, .int (nI 1)), (0, .ref a0), (1, .int (nI z)), (2, .int (nI i))] dX8_shutIn_13 rfl (by decide) rfl ?_
      refine j_lsub [(0, .ref a0), (1, .int (nI z)), (2, .int (nI i)), (3, .int (nI 1)), (4, .int (nI 0))] [2, 3, 4, 1, 0] rfl ?_
      refine j_loop2 (fun (e : Nat) (b : Bool) => [(a0, .inr (8, [.int th, .ref aX, .int ty, .int sp, .int tk, .int pl, .int va, .int fa, .ref aT, .ref aD, .ref aS, .ref aU, .int um, .ref aK, .ref aI, .ref aL, .ref aE, .ref aF, .int sm, .ref aP, .ref aW, .int (mI d), .ref aB, .ref aM])), (aT, .inl (cyI, 42, .inl (nA t))), (aS, .inl (cyI, 30, .inl (nA s))), (aP, .inl (cyI, 8, .inl (sA stp)))]) (fun (e : Nat) (b : Bool) => [(0, .ref a0), (1, .int (nI z)), (2, .int (nI i)), (3, .int (bI b)), (4, .int (nI e))]) (fun (e : Nat) (b : Bool) => []) (fun (e : Nat) (b : Bool) => e ≤ d - 1 ∧ b = (preL stp e).all (fun c => shB t s c i)) (fun (e : Nat) (b : Bool) => d - 1 - e) ?_ 0 true ?_
      · intro e b hI15 ih15
        obtain ⟨he, hb⟩ := hI15
        refine j_iload (pc' := 17) C dX8_shutIn_15 rfl 4 rfl ?_
        refine j_aload_n (pc' := 18) C dX8_shutIn_17 rfl 0 rfl ?_
        refine j_get (v := .int (mI d)) (pc' := 21) C KX8 0 21 rfl (by decide) fl_X8_160 rfl rfl dX8_shutIn_18 rfl ?_
        refine j_top (nI (d - 1)) (mI_n hd) ?_
        refine j_nc_ge (pc' := 24) C 55 dX8_shutIn_21 (by decide) rfl (by omega) (by omega) (fun c21 => ?_) (fun c21 => ?_)
        · refine j_iload_n (pc' := 56) C dX8_shutIn_55 rfl 1 rfl ?_
          refine j_iload_n (pc' := 57) C dX8_shutIn_56 rfl 3 rfl ?_
          refine j_b_eq (pc' := 60) C 66 dX8_shutIn_57 (by decide) rfl (fun c57 => ?_) (fun c57 => ?_)
          · refine j_iconst (v := (nI 0)) (pc' := 67) C dX8_shutIn_66 rfl (by decide +kernel) ?_
            refine j_ior (v := (nI (z ||| 0))) (pc' := 68) C dX8_shutIn_67 rfl (fa_or z 0) ?_
            refine j_istore_n (pc' := 69) C [(1, .int (nI (z ||| 0))), (0, .ref a0), (2, .int (nI i)), (3, .int (bI b)), (4, .int (nI e))] dX8_shutIn_68 rfl (by decide) rfl ?_
            refine j_iinc (v := (nI (i + 1))) (pc' := 72) C [(2, .int (nI (i + 1))), (1, .int (nI (z ||| 0))), (0, .ref a0), (3, .int (bI b)), (4, .int (nI e))] dX8_shutIn_69 rfl 2 rfl (inc_n i 1) (by decide) rfl ?_
            refine j_goto C 4 dX8_shutIn_72 (by decide) ?_
            refine j_lsub [(0, .ref a0), (1, .int (nI (z ||| 0))), (2, .int (nI (i + 1)))] [2, 1, 0] rfl ?_
            exact ih4 (i + 1) (z ||| 0) (⟨by omega, by rw [bsN, ← hz]; rw [show e = d - 1 by omega] at hb; show _ = z ||| (if (preL stp (d - 1)).all (fun c => shB t s c i) = true then 2 ^ i else 0); rw [← hb, c57]; rfl⟩) (by omega)
          · refine j_iconst (v := (nI 1)) (pc' := 61) C dX8_shutIn_60 rfl (by decide +kernel) ?_
            refine j_iload_n (pc' := 62) C dX8_shutIn_61 rfl 2 rfl ?_
            refine j_ishl (v := (nI (2 ^ i))) (pc' := 63) C dX8_shutIn_62 rfl (sh_1 (by omega)) ?_
            refine j_goto C 67 dX8_shutIn_63 (by decide) ?_
            refine j_ior (v := (nI (z ||| (2 ^ i)))) (pc' := 68) C dX8_shutIn_67 rfl (fa_or z (2 ^ i)) ?_
            refine j_istore_n (pc' := 69) C [(1, .int (nI (z ||| (2 ^ i)))), (0, .ref a0), (2, .int (nI i)), (3, .int (bI b)), (4, .int (nI e))] dX8_shutIn_68 rfl (by decide) rfl ?_
            refine j_iinc (v := (nI (i + 1))) (pc' := 72) C [(2, .int (nI (i + 1))), (1, .int (nI (z ||| (2 ^ i)))), (0, .ref a0), (3, .int (bI b)), (4, .int (nI e))] dX8_shutIn_69 rfl 2 rfl (inc_n i 1) (by decide) rfl ?_
            refine j_goto C 4 dX8_shutIn_72 (by decide) ?_
            refine j_lsub [(0, .ref a0), (1, .int (nI (z ||| (2 ^ i)))), (2, .int (nI (i + 1)))] [2, 1, 0] rfl ?_
            exact ih4 (i + 1) (z ||| (2 ^ i)) (⟨by omega, by rw [bsN, ← hz]; rw [show e = d - 1 by omega] at hb; show _ = z ||| (if (preL stp (d - 1)).all (fun c => shB t s c i) = true then 2 ^ i else 0); rw [← hb, c57]; rfl⟩) (by omega)
        · have h3 := hp e c21
          refine j_iload_n (pc' := 25) C dX8_shutIn_24 rfl 3 rfl ?_
          refine j_b_eq (pc' := 28) C 47 dX8_shutIn_25 (by decide) rfl (fun c25 => ?_) (fun c25 => ?_)
          · refine j_iconst (v := (nI 0)) (pc' := 48) C dX8_shutIn_47 rfl (by decide +kernel) ?_
            refine j_istore_n (pc' := 49) C [(3, .int (nI 0)), (0, .ref a0), (1, .int (nI z)), (2, .int (nI i)), (4, .int (nI e))] dX8_shutIn_48 rfl (by decide) rfl ?_
            refine j_iinc (v := (nI (e + 1))) (pc' := 52) C [(4, .int (nI (e + 1))), (3, .int (nI 0)), (0, .ref a0), (1, .int (nI z)), (2, .int (nI i))] dX8_shutIn_49 rfl 4 rfl (inc_n e 1) (by decide) rfl ?_
            refine j_goto C 15 dX8_shutIn_52 (by decide) ?_
            refine j_lsub [(0, .ref a0), (1, .int (nI z)), (2, .int (nI i)), (3, .int (nI 0)), (4, .int (nI (e + 1)))] [2, 3, 4, 1, 0] rfl ?_
            exact ih15 (e + 1) false (⟨by omega, by rw [preL, List.all_append, ← hb]; simp_all⟩) (by omega)
          · refine j_aload_n (pc' := 29) C dX8_shutIn_28 rfl 0 rfl ?_
            refine j_aload_n (pc' := 30) C dX8_shutIn_29 rfl 0 rfl ?_
            refine j_get (v := .ref aP) (pc' := 33) C KX8 0 19 rfl (by decide) fl_X8_41 rfl rfl dX8_shutIn_30 rfl ?_
            refine j_iload (pc' := 35) C dX8_shutIn_33 rfl 4 rfl ?_
            refine j_sald (pc' := 36) C 3 rfl (by omega) (by decide) dX8_shutIn_35 rfl ?_
            refine j_top (nI (stp e - 1)) (mI_n (hp e c21).1) ?_
            refine j_iload_n (pc' := 37) C dX8_shutIn_36 rfl 2 rfl ?_
            refine j_cVi (As := [.int (nI (stp e - 1)), .int (nI i)]) (wr := [(aP, .inl (cyI, 8, .inl (sA stp)))]) (pc' := 40) C (c_X8_isShut (a0 := a0) (th := th) (aX := aX) (ty := ty) (sp := sp) (tk := tk) (pl := pl) (va := va) (fa := fa) (aT := aT) (aD := aD) (aS := aS) (aU := aU) (um := um) (aK := aK) (aI := aI) (aL := aL) (aE := aE) (aF := aF) (sm := sm) (aP := aP) (aW := aW) (sn := (mI d)) (aB := aB) (aM := aM) (t := t) (s := s) (c := stp e - 1) (st := i) (hT := by first | assumption | omega) (hS := by first | assumption | omega) (hc := by first | assumption | omega) (hst := by first | assumption | omega)) Y_X8_isShut (ml_X8_133) [0, 1, 2] [3] rfl rfl rfl rfl (by decide) rfl rfl rfl dX8_shutIn_37 rfl rfl rfl (Nat.le_of_ble_eq_true rfl) ⟨Nat.le_of_ble_eq_true rfl, Nat.le_of_ble_eq_true rfl⟩ ⟨Nat.le_of_ble_eq_true rfl, Nat.le_of_ble_eq_true rfl⟩ ⟨rfl, rfl⟩ (fun r1 w1 hQ => ?_)
            obtain ⟨rfl, rfl⟩ := hQ
            refine j_perm [(a0, .inr (8, [.int th, .ref aX, .int ty, .int sp, .int tk, .int pl, .int va, .int fa, .ref aT, .ref aD, .ref aS, .ref aU, .int um, .ref aK, .ref aI, .ref aL, .ref aE, .ref aF, .int sm, .ref aP, .ref aW, .int (mI d), .ref aB, .ref aM])), (aT, .inl (cyI, 42, .inl (nA t))), (aS, .inl (cyI, 30, .inl (nA s))), (aP, .inl (cyI, 8, .inl (sA stp)))] [1, 2, 3, 0] rfl rfl (by decide) ?_
            refine j_b_eq (pc' := 43) C 47 dX8_shutIn_40 (by decide) rfl (fun c40 => ?_) (fun c40 => ?_)
            · refine j_iconst (v := (nI 0)) (pc' := 48) C dX8_shutIn_47 rfl (by decide +kernel) ?_
              refine j_istore_n (pc' := 49) C [(3, .int (nI 0)), (0, .ref a0), (1, .int (nI z)), (2, .int (nI i)), (4, .int (nI e))] dX8_shutIn_48 rfl (by decide) rfl ?_
              refine j_iinc (v := (nI (e + 1))) (pc' := 52) C [(4, .int (nI (e + 1))), (3, .int (nI 0)), (0, .ref a0), (1, .int (nI z)), (2, .int (nI i))] dX8_shutIn_49 rfl 4 rfl (inc_n e 1) (by decide) rfl ?_
              refine j_goto C 15 dX8_shutIn_52 (by decide) ?_
              refine j_lsub [(0, .ref a0), (1, .int (nI z)), (2, .int (nI i)), (3, .int (nI 0)), (4, .int (nI (e + 1)))] [2, 3, 4, 1, 0] rfl ?_
              exact ih15 (e + 1) false (⟨by omega, by rw [preL, List.all_append, ← hb]; simp_all⟩) (by omega)
            · refine j_iconst (v := (nI 1)) (pc' := 44) C dX8_shutIn_43 rfl (by decide +kernel) ?_
              refine j_goto C 48 dX8_shutIn_44 (by decide) ?_
              refine j_istore_n (pc' := 49) C [(3, .int (nI 1)), (0, .ref a0), (1, .int (nI z)), (2, .int (nI i)), (4, .int (nI e))] dX8_shutIn_48 rfl (by decide) rfl ?_
              refine j_iinc (v := (nI (e + 1))) (pc' := 52) C [(4, .int (nI (e + 1))), (3, .int (nI 1)), (0, .ref a0), (1, .int (nI z)), (2, .int (nI i))] dX8_shutIn_49 rfl 4 rfl (inc_n e 1) (by decide) rfl ?_
              refine j_goto C 15 dX8_shutIn_52 (by decide) ?_
              refine j_lsub [(0, .ref a0), (1, .int (nI z)), (2, .int (nI i)), (3, .int (nI 1)), (4, .int (nI (e + 1)))] [2, 3, 4, 1, 0] rfl ?_
              exact ih15 (e + 1) true (⟨by omega, by rw [preL, List.all_append, ← hb]; simp_all⟩) (by omega)
      · exact ⟨Nat.zero_le _, rfl⟩
  · exact ⟨Nat.zero_le _, rfl⟩

set_option maxHeartbeats 4000000 in
set_option maxRecDepth 100000 in
theorem c_X8_path {lch : Launch} {dG : va_G} {cyI cyZ cyO : ClassId} (a0 : Nat) (th : Int32) (aX : Nat) (ty : Int32) (sp : Int32) (tk : Int32) (pl : Int32) (va : Int32) (fa : Int32) (aT : Nat) (aD : Nat) (aS : Nat) (aU : Nat) (um : Int32) (aK : Nat) (aI : Nat) (aL : Nat) (aE : Nat) (aF : Nat) (sm : Int32) (aP : Nat) (aW : Nat) (sn : Int32) (aB : Nat) (aM : Nat) (t : Nat → Nat) (s : Nat → Nat) (stp : Nat → Nat) (wh : Nat → Nat) (l : Int32) (k : Int32) (w : Int32) (hT : WT t) (hS : WS s) : Ki lch yX8_path cX8_path 7 .int (rmk 5) dG (cyI, cyZ, cyO) [.ref a0, .int l, .int k, .int w] [(a0, .inr (8, [.int th, .ref aX, .int ty, .int sp, .int tk, .int pl, .int va, .int fa, .ref aT, .ref aD, .ref aS, .ref aU, .int um, .ref aK, .ref aI, .ref aL, .ref aE, .ref aF, .int sm, .ref aP, .ref aW, .int sn, .ref aB, .ref aM])), (aT, .inl (cyI, 42, .inl (nA t))), (aS, .inl (cyI, 30, .inl (nA s))), (aP, .inl (cyI, 8, .inl (sA stp))), (aW, .inl (cyI, 8, .inl (nA wh)))] (fun r w1 => ∃ (d1 : Int32), ∃ (wh1 : Nat → Nat), ∃ (sp1 : Nat → Nat), w1 = [(a0, .inr (8, [.int (nI 0), .ref aX, .int ty, .int sp, .int tk, .int pl, .int va, .int fa, .ref aT, .ref aD, .ref aS, .ref aU, .int um, .ref aK, .ref aI, .ref aL, .ref aE, .ref aF, .int sm, .ref aP, .ref aW, .int d1, .ref aB, .ref aM])), (aT, .inl (cyI, 42, .inl (nA t))), (aS, .inl (cyI, 30, .inl (nA s))), (aP, .inl (cyI, 8, .inl (sA sp1))), (aW, .inl (cyI, 8, .inl (nA wh1)))] ∧ r = (paQ t s l k w)) := by
  have h1 := hT.n
  refine Ki.of (own := RX8) rfl (by decide) (Nat.le_of_ble_eq_true rfl) (fun p0 e0 s0 m0 ar0 be0 me0 cd0 A0 C hr hk hnm hA => ?_)
  refine j_lsub [(0, .ref a0), (1, .int l), (2, .int k), (3, .int w)] [0, 1, 2, 3] rfl ?_
  refine j_aload_n (pc' := 1) C dX8_path_0 rfl 0 rfl ?_
  refine j_iconst (v := (nI 0)) (pc' := 2) C dX8_path_1 rfl (by decide +kernel) ?_
  refine j_put (pc' := 5) C [(a0, .inr (8, [.int (nI 0), .ref aX, .int ty, .int sp, .int tk, .int pl, .int va, .int fa, .ref aT, .ref aD, .ref aS, .ref aU, .int um, .ref aK, .ref aI, .ref aL, .ref aE, .ref aF, .int sm, .ref aP, .ref aW, .int sn, .ref aB, .ref aM])), (aT, .inl (cyI, 42, .inl (nA t))), (aS, .inl (cyI, 30, .inl (nA s))), (aP, .inl (cyI, 8, .inl (sA stp))), (aW, .inl (cyI, 8, .inl (nA wh)))] KX8 0 0 rfl (by decide) fl_X8_59 rfl rfl rfl rfl (Nat.le_of_ble_eq_true rfl) dX8_path_2 rfl rfl ?_
  refine j_aload_n (pc' := 6) C dX8_path_5 rfl 0 rfl ?_
  refine j_iload_n (pc' := 7) C dX8_path_6 rfl 1 rfl ?_
  refine j_cVi (As := [.int l]) (wr := [(aS, .inl (cyI, 30, .inl (nA s))), (aP, .inl (cyI, 8, .inl (sA stp))), (aW, .inl (cyI, 8, .inl (nA wh)))]) (pc' := 10) C (c_X8_isLoad (a0 := a0) (th := (nI 0)) (aX := aX) (ty := ty) (sp := sp) (tk := tk) (pl := pl) (va := va) (fa := fa) (aT := aT) (aD := aD) (aS := aS) (aU := aU) (um := um) (aK := aK) (aI := aI) (aL := aL) (aE := aE) (aF := aF) (sm := sm) (aP := aP) (aW := aW) (sn := sn) (aB := aB) (aM := aM) (t := t) (v := l) (hT := by first | assumption | omega)) Y_X8_isLoad (ml_X8_150) [0, 1] [2, 3, 4] rfl rfl rfl rfl (by decide) rfl rfl rfl dX8_path_7 rfl rfl rfl (Nat.le_of_ble_eq_true rfl) ⟨Nat.le_of_ble_eq_true rfl, Nat.le_of_ble_eq_true rfl⟩ ⟨Nat.le_of_ble_eq_true rfl, Nat.le_of_ble_eq_true rfl⟩ ⟨rfl, rfl⟩ (fun r1 w1 hQ => ?_)
  obtain ⟨rfl, rfl⟩ := hQ
  refine j_perm [(a0, .inr (8, [.int (nI 0), .ref aX, .int ty, .int sp, .int tk, .int pl, .int va, .int fa, .ref aT, .ref aD, .ref aS, .ref aU, .int um, .ref aK, .ref aI, .ref aL, .ref aE, .ref aF, .int sm, .ref aP, .ref aW, .int sn, .ref aB, .ref aM])), (aT, .inl (cyI, 42, .inl (nA t))), (aS, .inl (cyI, 30, .inl (nA s))), (aP, .inl (cyI, 8, .inl (sA stp))), (aW, .inl (cyI, 8, .inl (nA wh)))] [3, 4, 0, 1, 2] rfl rfl (by decide) ?_
  refine j_b_eq (pc' := 13) C 26 dX8_path_10 (by decide) rfl (fun c10 => ?_) (fun c10 => ?_)
  · refine j_iconst (v := (-1)) (pc' := 27) C dX8_path_26 rfl (by decide +kernel) ?_
    exact j_iret C hr hk hA dX8_path_27 (rfl) (⟨_, wh, stp, rfl, by unfold paQ; rw [if_pos ?_]; first | (simp_all; done) | (have c14b := (i_lt _ _).mp c14; rw [i_0] at c14b; rw [decide_eq_false (by omega)]; simp)⟩)
  · obtain ⟨j, hj, rfl⟩ := inR_t c10 (by omega)
    have h2 := hT.l hj
    refine j_iload_n (pc' := 14) C dX8_path_13 rfl 2 rfl ?_
    refine j_if_lt (pc' := 17) C 26 dX8_path_14 (by decide) rfl (fun c14 => ?_) (fun c14 => ?_)
    · refine j_iconst (v := (-1)) (pc' := 27) C dX8_path_26 rfl (by decide +kernel) ?_
      exact j_iret C hr hk hA dX8_path_27 (rfl) (⟨_, wh, stp, rfl, by unfold paQ; rw [if_pos ?_]; first | (simp_all; done) | (have c14b := (i_lt _ _).mp c14; rw [i_0] at c14b; rw [decide_eq_false (by omega)]; simp)⟩)
    · obtain ⟨kk, hkk, rfl⟩ := nI_of c14
      refine j_iload_n (pc' := 18) C dX8_path_17 rfl 3 rfl ?_
      refine j_iconst (v := (nI 0)) (pc' := 19) C dX8_path_18 rfl (by decide +kernel) ?_
      refine j_iconst (v := (nI 2)) (pc' := 20) C dX8_path_19 rfl (by decide +kernel) ?_
      refine j_cSi (As := [.int w, .int (nI 0), .int (nI 2)]) (wr := [(a0, .inr (8, [.int (nI 0), .ref aX, .int ty, .int sp, .int tk, .int pl, .int va, .int fa, .ref aT, .ref aD, .ref aS, .ref aU, .int um, .ref aK, .ref aI, .ref aL, .ref aE, .ref aF, .int sm, .ref aP, .ref aW, .int sn, .ref aB, .ref aM])), (aT, .inl (cyI, 42, .inl (nA t))), (aS, .inl (cyI, 30, .inl (nA s))), (aP, .inl (cyI, 8, .inl (sA stp))), (aW, .inl (cyI, 8, .inl (nA wh)))]) (pc' := 23) C (c_X8_in (x := w) (a := (nI 0)) (b := (nI 2)) ) Y_X8_in (ml_X8_63) [] [0, 1, 2, 3, 4] rfl rfl rfl rfl (by decide) dX8_path_20 rfl rfl rfl (Nat.le_of_ble_eq_true rfl) ⟨Nat.le_of_ble_eq_true rfl, Nat.le_of_ble_eq_true rfl⟩ ⟨Nat.le_of_ble_eq_true rfl, Nat.le_of_ble_eq_true rfl⟩ ⟨rfl, rfl⟩ (fun r2 w1 hQ => ?_)
      obtain ⟨rfl, rfl⟩ := hQ
      refine j_perm [(a0, .inr (8, [.int (nI 0), .ref aX, .int ty, .int sp, .int tk, .int pl, .int va, .int fa, .ref aT, .ref aD, .ref aS, .ref aU, .int um, .ref aK, .ref aI, .ref aL, .ref aE, .ref aF, .int sm, .ref aP, .ref aW, .int sn, .ref aB, .ref aM])), (aT, .inl (cyI, 42, .inl (nA t))), (aS, .inl (cyI, 30, .inl (nA s))), (aP, .inl (cyI, 8, .inl (sA stp))), (aW, .inl (cyI, 8, .inl (nA wh)))] [0, 1, 2, 3, 4] rfl rfl (by decide) ?_
      refine j_b_ne (pc' := 26) C 28 dX8_path_23 (by decide) rfl (fun c23 => ?_) (fun c23 => ?_)
      · rw [in_R2 _ _ (by omega)] at c23
        obtain ⟨q, hq, rfl⟩ := inR_t c23 (by omega)
        refine j_aload_n (pc' := 29) C dX8_path_28 rfl 0 rfl ?_
        refine j_cVv (As := []) (wr := [(aT, .inl (cyI, 42, .inl (nA t))), (aS, .inl (cyI, 30, .inl (nA s)))]) (pc' := 32) C (c_X8_beginsPath (a0 := a0) (th := (nI 0)) (aX := aX) (ty := ty) (sp := sp) (tk := tk) (pl := pl) (va := va) (fa := fa) (aT := aT) (aD := aD) (aS := aS) (aU := aU) (um := um) (aK := aK) (aI := aI) (aL := aL) (aE := aE) (aF := aF) (sm := sm) (aP := aP) (aW := aW) (sn := sn) (aB := aB) (aM := aM) (stp := stp) (wh := wh) ) Y_X8_beginsPath (ml_X8_169) [0, 3, 4] [1, 2] rfl rfl rfl rfl (by decide) rfl rfl rfl dX8_path_29 rfl rfl rfl (Nat.le_of_ble_eq_true rfl) ⟨Nat.le_of_ble_eq_true rfl, Nat.le_of_ble_eq_true rfl⟩ ⟨Nat.le_of_ble_eq_true rfl, Nat.le_of_ble_eq_true rfl⟩ ⟨rfl, rfl⟩ (fun w1 hQ => ?_)
        obtain rfl := hQ
        refine j_perm [(a0, .inr (8, [.int (nI 0), .ref aX, .int ty, .int sp, .int tk, .int pl, .int va, .int fa, .ref aT, .ref aD, .ref aS, .ref aU, .int um, .ref aK, .ref aI, .ref aL, .ref aE, .ref aF, .int sm, .ref aP, .ref aW, .int (mI 1), .ref aB, .ref aM])), (aT, .inl (cyI, 42, .inl (nA t))), (aS, .inl (cyI, 30, .inl (nA s))), (aP, .inl (cyI, 8, .inl (sA (uN stp 0 0)))), (aW, .inl (cyI, 8, .inl (nA (uN wh 0 0))))] [2, 0, 1, 3, 4] rfl rfl (by decide) ?_
        refine j_aload_n (pc' := 33) C dX8_path_32 rfl 0 rfl ?_
        refine j_aload_n (pc' := 34) C dX8_path_33 rfl 0 rfl ?_
        refine j_get (v := .ref aT) (pc' := 37) C KX8 0 8 rfl (by decide) fl_X8_13 rfl rfl dX8_path_34 rfl ?_
        refine j_bipush (v := (nI 39)) (pc' := 39) C dX8_path_37 rfl (by decide +kernel) ?_
        refine j_iload_n (pc' := 40) C dX8_path_39 rfl 1 rfl ?_
        refine j_iadd (v := (nI (39 + j))) (pc' := 41) C dX8_path_40 rfl (nI_add 39 j) ?_
        refine j_nald (pc' := 42) C 1 rfl (by omega) (by decide) dX8_path_41 rfl ?_
        refine j_cVi (As := [.int (nI (t (39 + j)))]) (wr := []) (pc' := 45) C (c_X8_nextPath (a0 := a0) (th := (nI 0)) (aX := aX) (ty := ty) (sp := sp) (tk := tk) (pl := pl) (va := va) (fa := fa) (aT := aT) (aD := aD) (aS := aS) (aU := aU) (um := um) (aK := aK) (aI := aI) (aL := aL) (aE := aE) (aF := aF) (sm := sm) (aP := aP) (aW := aW) (aB := aB) (aM := aM) (t := t) (s := s) (stp := uN stp 0 0) (wh := uN wh 0 0) (d := 1) (g := t (39 + j)) (hT := by first | assumption | omega) (hS := by first | assumption | omega) (hV := VP_0 hT _ _) (hd := Nat.le_refl _) (hg := by omega)) Y_X8_nextPath (ml_X8_172) [0, 1, 2, 3, 4] [] rfl rfl rfl rfl (by decide) rfl rfl rfl dX8_path_42 rfl rfl rfl (Nat.le_of_ble_eq_true rfl) ⟨Nat.le_of_ble_eq_true rfl, Nat.le_of_ble_eq_true rfl⟩ ⟨Nat.le_of_ble_eq_true rfl, Nat.le_of_ble_eq_true rfl⟩ ⟨rfl, rfl⟩ (fun r4 w1 hQ => ?_)
        obtain ⟨d1_4, wh1_4, sp1_4, b_4, rfl, rfl, hF42⟩ := hQ
        refine j_istore (pc' := 47) C [(4, .int (bI b_4)), (0, .ref a0), (1, .int (nI j)), (2, .int (nI kk)), (3, .int (nI q))] dX8_path_45 rfl (by decide) rfl ?_
        refine j_iconst (v := (nI 0)) (pc' := 48) C dX8_path_47 rfl (by decide +kernel) ?_
        refine j_istore (pc' := 50) C [(5, .int (nI 0)), (4, .int (bI b_4)), (0, .ref a0), (1, .int (nI j)), (2, .int (nI kk)), (3, .int (nI q))] dX8_path_48 rfl (by decide) rfl ?_
        refine j_lsub [(0, .ref a0), (1, .int (nI j)), (2, .int (nI kk)), (3, .int (nI q)), (4, .int (bI b_4)), (5, .int (nI 0))] [2, 3, 4, 5, 1, 0] rfl ?_
        refine j_loop5 (fun (n : Nat) (b : Bool) (d2 : Nat) (w2 : Nat → Nat) (p2 : Nat → Nat) => [(a0, .inr (8, [.int (nI 0), .ref aX, .int ty, .int sp, .int tk, .int pl, .int va, .int fa, .ref aT, .ref aD, .ref aS, .ref aU, .int um, .ref aK, .ref aI, .ref aL, .ref aE, .ref aF, .int sm, .ref aP, .ref aW, .int (mI d2), .ref aB, .ref aM])), (aT, .inl (cyI, 42, .inl (nA t))), (aS, .inl (cyI, 30, .inl (nA s))), (aP, .inl (cyI, 8, .inl (sA p2))), (aW, .inl (cyI, 8, .inl (nA w2)))]) (fun (n : Nat) (b : Bool) (d2 : Nat) (w2 : Nat → Nat) (p2 : Nat → Nat) => [(0, .ref a0), (1, .int (nI j)), (2, .int (nI kk)), (3, .int (nI q)), (4, .int (bI b)), (5, .int (nI n))]) (fun (n : Nat) (b : Bool) (d2 : Nat) (w2 : Nat → Nat) (p2 : Nat → Nat) => []) (fun (n : Nat) (b : Bool) (d2 : Nat) (w2 : Nat → Nat) (p2 : Nat → Nat) => n ≤ kk ∧ VP t w2 p2 d2 ∧ ((b = true ∧ 2 ≤ d2 ∧ w2 (d2 - 1) = t (39 + j) ∧ (pAll t s j).drop n = preL p2 (d2 - 1) :: remL t s (t (39 + j)) w2 p2 (d2 - 1)) ∨ (b = false ∧ (pAll t s j).drop n = []))) (fun (n : Nat) (b : Bool) (d2 : Nat) (w2 : Nat → Nat) (p2 : Nat → Nat) => kk - n) ?_ 0 b_4 d1_4 wh1_4 sp1_4 ?_
        · intro n b d2 w2 p2 hI50 ih50
          obtain ⟨hn, hV, hL⟩ := hI50
          refine j_iload (pc' := 52) C dX8_path_50 rfl 5 rfl ?_
          refine j_iload_n (pc' := 53) C dX8_path_52 rfl 2 rfl ?_
          refine j_nc_ge (pc' := 56) C 82 dX8_path_53 (by decide) rfl (by omega) (by omega) (fun c53 => ?_) (fun c53 => ?_)
          · refine j_iload (pc' := 84) C dX8_path_82 rfl 4 rfl ?_
            refine j_b_ne (pc' := 87) C 90 dX8_path_84 (by decide) rfl (fun c84 => ?_) (fun c84 => ?_)
            · obtain ⟨hx2, hx3, hx4⟩ : 2 ≤ d2 ∧ w2 (d2 - 1) = t (39 + j) ∧ (pAll t s j).drop n = preL p2 (d2 - 1) :: remL t s (t (39 + j)) w2 p2 (d2 - 1) := by
                rcases hL with ⟨_, q9⟩ | ⟨q9, _⟩
                · exact q9
                · rw [c84] at q9; cases q9
              have hd7 := hV.1
              have hpp : ∀ i, i < d2 - 1 → 1 ≤ p2 i ∧ p2 i ≤ t 1 := fun i hi => ⟨(hV.2.1 i (by omega)).2.2 (by omega), (hV.2.1 i (by omega)).2.1⟩
              refine j_iconst (v := (nI 0)) (pc' := 91) C dX8_path_90 rfl (by decide +kernel) ?_
              refine j_istore (pc' := 93) C [(5, .int (nI 0)), (0, .ref a0), (1, .int (nI j)), (2, .int (nI kk)), (3, .int (nI q)), (4, .int (bI b))] dX8_path_91 rfl (by decide) rfl ?_
              refine j_iconst (v := (nI 0)) (pc' := 94) C dX8_path_93 rfl (by decide +kernel) ?_
              refine j_istore (pc' := 96) C [(6, .int (nI 0)), (5, .int (nI 0)), (0, .ref a0), (1, .int (nI j)), (2, .int (nI kk)), (3, .int (nI q)), (4, .int (bI b))] dX8_path_94 rfl (by decide) rfl ?_
              refine j_lsub [(0, .ref a0), (1, .int (nI j)), (2, .int (nI kk)), (3, .int (nI q)), (4, .int (bI b)), (5, .int (nI 0)), (6, .int (nI 0))] [2, 3, 4, 5, 6, 1, 0] rfl ?_
              refine j_loop2 (fun (e : Nat) (z : Nat) => [(a0, .inr (8, [.int (nI 0), .ref aX, .int ty, .int sp, .int tk, .int pl, .int va, .int fa, .ref aT, .ref aD, .ref aS, .ref aU, .int um, .ref aK, .ref aI, .ref aL, .ref aE, .ref aF, .int sm, .ref aP, .ref aW, .int (mI d2), .ref aB, .ref aM])), (aT, .inl (cyI, 42, .inl (nA t))), (aS, .inl (cyI, 30, .inl (nA s))), (aP, .inl (cyI, 8, .inl (sA p2))), (aW, .inl (cyI, 8, .inl (nA w2)))]) (fun (e : Nat) (z : Nat) => [(0, .ref a0), (1, .int (nI j)), (2, .int (nI kk)), (3, .int (nI q)), (4, .int (bI b)), (5, .int (nI z)), (6, .int (nI e))]) (fun (e : Nat) (z : Nat) => []) (fun (e : Nat) (z : Nat) => e ≤ d2 - 1 ∧ z = bitL (preL p2 e)) (fun (e : Nat) (z : Nat) => d2 - 1 - e) ?_ 0 0 ?_
              · intro e z hI96 ih96
                obtain ⟨he, hz⟩ := hI96
                refine j_iload (pc' := 98) C dX8_path_96 rfl 6 rfl ?_
                refine j_aload_n (pc' := 99) C dX8_path_98 rfl 0 rfl ?_
                refine j_get (v := .int (mI d2)) (pc' := 102) C KX8 0 21 rfl (by decide) fl_X8_160 rfl rfl dX8_path_99 rfl ?_
                refine j_top (nI (d2 - 1)) (mI_n (by omega)) ?_
                refine j_nc_ge (pc' := 105) C 125 dX8_path_102 (by decide) rfl (by omega) (by omega) (fun c102 => ?_) (fun c102 => ?_)
                · refine j_iload_n (pc' := 126) C dX8_path_125 rfl 3 rfl ?_
                  refine j_nz_ne (pc' := 129) C 134 dX8_path_126 (by decide) rfl (by omega) (fun c126 => ?_) (fun c126 => ?_)
                  · refine j_iload_n (pc' := 135) C dX8_path_134 rfl 3 rfl ?_
                    refine j_iconst (v := (nI 1)) (pc' := 136) C dX8_path_135 rfl (by decide +kernel) ?_
                    refine j_nc_ne (pc' := 139) C 146 dX8_path_136 (by decide) rfl (by omega) (by omega) (fun c136 => ?_) (fun c136 => ?_)
                    · refine j_aload_n (pc' := 147) C dX8_path_146 rfl 0 rfl ?_
                      refine j_cVi (As := []) (wr := [(aW, .inl (cyI, 8, .inl (nA w2)))]) (pc' := 150) C (c_X8_shutIn (a0 := a0) (th := (nI 0)) (aX := aX) (ty := ty) (sp := sp) (tk := tk) (pl := pl) (va := va) (fa := fa) (aT := aT) (aD := aD) (aS := aS) (aU := aU) (um := um) (aK := aK) (aI := aI) (aL := aL) (aE := aE) (aF := aF) (sm := sm) (aP := aP) (aW := aW) (aB := aB) (aM := aM) (t := t) (s := s) (stp := p2) (d := d2) (hT := by first | assumption | omega) (hS := by first | assumption | omega) (hd := by omega) (hd8 := by omega) (hp := hpp)) Y_X8_shutIn (ml_X8_175) [0, 1, 2, 3] [4] rfl rfl rfl rfl (by decide) rfl rfl rfl dX8_path_147 rfl rfl rfl (Nat.le_of_ble_eq_true rfl) ⟨Nat.le_of_ble_eq_true rfl, Nat.le_of_ble_eq_true rfl⟩ ⟨Nat.le_of_ble_eq_true rfl, Nat.le_of_ble_eq_true rfl⟩ ⟨rfl, rfl⟩ (fun r5 w1 hQ => ?_)
                      obtain ⟨rfl, rfl⟩ := hQ
                      refine j_perm [(a0, .inr (8, [.int (nI 0), .ref aX, .int ty, .int sp, .int tk, .int pl, .int va, .int fa, .ref aT, .ref aD, .ref aS, .ref aU, .int um, .ref aK, .ref aI, .ref aL, .ref aE, .ref aF, .int sm, .ref aP, .ref aW, .int (mI d2), .ref aB, .ref aM])), (aT, .inl (cyI, 42, .inl (nA t))), (aS, .inl (cyI, 30, .inl (nA s))), (aP, .inl (cyI, 8, .inl (sA p2))), (aW, .inl (cyI, 8, .inl (nA w2)))] [1, 2, 3, 4, 0] rfl rfl (by decide) ?_
                      exact j_iret C hr hk hA dX8_path_150 (rfl) (⟨_, _, _, rfl, by unfold paQ; rw [if_neg (by simp_all [nI_toInt hkk]), nI_clamp (by omega), nI_clamp hkk, ← show n = kk by omega, (drop_cons hx4).1]; dsimp only; simp only [nI_eq (show q < 2147483648 by omega) (show 0 < 2147483648 by decide), nI_eq (show q < 2147483648 by omega) (show 1 < 2147483648 by decide)]; first | rw [if_pos c126, hz, show e = d2 - 1 by omega] | rw [if_neg c126, if_pos c136, preL_len] | rw [if_neg c126, if_neg c136]⟩)
                    · refine j_aload_n (pc' := 140) C dX8_path_139 rfl 0 rfl ?_
                      refine j_get (v := .int (mI d2)) (pc' := 143) C KX8 0 21 rfl (by decide) fl_X8_160 rfl rfl dX8_path_140 rfl ?_
                      refine j_top (nI (d2 - 1)) (mI_n (by omega)) ?_
                      refine j_goto C 150 dX8_path_143 (by decide) ?_
                      exact j_iret C hr hk hA dX8_path_150 (rfl) (⟨_, _, _, rfl, by unfold paQ; rw [if_neg (by simp_all [nI_toInt hkk]), nI_clamp (by omega), nI_clamp hkk, ← show n = kk by omega, (drop_cons hx4).1]; dsimp only; simp only [nI_eq (show q < 2147483648 by omega) (show 0 < 2147483648 by decide), nI_eq (show q < 2147483648 by omega) (show 1 < 2147483648 by decide)]; first | rw [if_pos c126, hz, show e = d2 - 1 by omega] | rw [if_neg c126, if_pos c136, preL_len] | rw [if_neg c126, if_neg c136]⟩)
                  · refine j_iload (pc' := 131) C dX8_path_129 rfl 5 rfl ?_
                    refine j_goto C 150 dX8_path_131 (by decide) ?_
                    exact j_iret C hr hk hA dX8_path_150 (rfl) (⟨_, _, _, rfl, by unfold paQ; rw [if_neg (by simp_all [nI_toInt hkk]), nI_clamp (by omega), nI_clamp hkk, ← show n = kk by omega, (drop_cons hx4).1]; dsimp only; simp only [nI_eq (show q < 2147483648 by omega) (show 0 < 2147483648 by decide), nI_eq (show q < 2147483648 by omega) (show 1 < 2147483648 by decide)]; first | rw [if_pos c126, hz, show e = d2 - 1 by omega] | rw [if_neg c126, if_pos c136, preL_len] | rw [if_neg c126, if_neg c136]⟩)
                · have h3 := hpp e c102
                  refine j_iload (pc' := 107) C dX8_path_105 rfl 5 rfl ?_
                  refine j_iconst (v := (nI 1)) (pc' := 108) C dX8_path_107 rfl (by decide +kernel) ?_
                  refine j_aload_n (pc' := 109) C dX8_path_108 rfl 0 rfl ?_
                  refine j_get (v := .ref aP) (pc' := 112) C KX8 0 19 rfl (by decide) fl_X8_41 rfl rfl dX8_path_109 rfl ?_
                  refine j_iload (pc' := 114) C dX8_path_112 rfl 6 rfl ?_
                  refine j_sald (pc' := 115) C 3 rfl (by omega) (by decide) dX8_path_114 rfl ?_
                  refine j_top (nI (p2 e - 1)) (mI_n (by omega)) ?_
                  refine j_ishl (v := (nI (2 ^ (p2 e - 1)))) (pc' := 116) C dX8_path_115 rfl (sh_1 (by omega)) ?_
                  refine j_ior (v := (nI (z ||| (2 ^ (p2 e - 1))))) (pc' := 117) C dX8_path_116 rfl (fa_or z (2 ^ (p2 e - 1))) ?_
                  refine j_istore (pc' := 119) C [(5, .int (nI (z ||| (2 ^ (p2 e - 1))))), (0, .ref a0), (1, .int (nI j)), (2, .int (nI kk)), (3, .int (nI q)), (4, .int (bI b)), (6, .int (nI e))] dX8_path_117 rfl (by decide) rfl ?_
                  refine j_iinc (v := (nI (e + 1))) (pc' := 122) C [(6, .int (nI (e + 1))), (5, .int (nI (z ||| (2 ^ (p2 e - 1))))), (0, .ref a0), (1, .int (nI j)), (2, .int (nI kk)), (3, .int (nI q)), (4, .int (bI b))] dX8_path_119 rfl 6 rfl (inc_n e 1) (by decide) rfl ?_
                  refine j_goto C 96 dX8_path_122 (by decide) ?_
                  refine j_lsub [(0, .ref a0), (1, .int (nI j)), (2, .int (nI kk)), (3, .int (nI q)), (4, .int (bI b)), (5, .int (nI (z ||| (2 ^ (p2 e - 1))))), (6, .int (nI (e + 1)))] [2, 3, 4, 5, 6, 1, 0] rfl ?_
                  exact ih96 (e + 1) (z ||| (2 ^ (p2 e - 1))) (⟨by omega, by rw [preL, bitL_a, ← hz]⟩) (by omega)
              · exact ⟨Nat.zero_le _, rfl⟩
            · have hnn : (pAll t s j).drop n = [] := by
                rcases hL with ⟨q9, _⟩ | ⟨_, q9⟩
                · rw [c84] at q9; cases q9
                · exact q9
              have hnk : (pAll t s j)[kk]? = none := by
                have := List.drop_eq_nil_iff.mp hnn
                exact List.getElem?_eq_none (by omega)
              refine j_bipush (v := (-9)) (pc' := 89) C dX8_path_87 rfl (by decide +kernel) ?_
              exact j_iret C hr hk hA dX8_path_89 (rfl) (⟨_, _, _, rfl, by unfold paQ; rw [if_neg (by simp_all [nI_toInt hkk]), nI_clamp (by omega), nI_clamp hkk, hnk]⟩)
          · refine j_iload (pc' := 58) C dX8_path_56 rfl 4 rfl ?_
            refine j_b_eq (pc' := 61) C 82 dX8_path_58 (by decide) rfl (fun c58 => ?_) (fun c58 => ?_)
            · refine j_iload (pc' := 84) C dX8_path_82 rfl 4 rfl ?_
              refine j_b_ne (pc' := 87) C 90 dX8_path_84 (by decide) rfl (fun c84 => ?_) (fun c84 => ?_)
              · exact absurd c84 (by rw [c58]; decide)
              · have hnn : (pAll t s j).drop n = [] := by
                  rcases hL with ⟨q9, _⟩ | ⟨_, q9⟩
                  · rw [c84] at q9; cases q9
                  · exact q9
                have hnk : (pAll t s j)[kk]? = none := by
                  have := List.drop_eq_nil_iff.mp hnn
                  exact List.getElem?_eq_none (by omega)
                refine j_bipush (v := (-9)) (pc' := 89) C dX8_path_87 rfl (by decide +kernel) ?_
                exact j_iret C hr hk hA dX8_path_89 (rfl) (⟨_, _, _, rfl, by unfold paQ; rw [if_neg (by simp_all [nI_toInt hkk]), nI_clamp (by omega), nI_clamp hkk, hnk]⟩)
            · obtain ⟨hx2, hx3, hx4⟩ : 2 ≤ d2 ∧ w2 (d2 - 1) = t (39 + j) ∧ (pAll t s j).drop n = preL p2 (d2 - 1) :: remL t s (t (39 + j)) w2 p2 (d2 - 1) := by
                rcases hL with ⟨_, q9⟩ | ⟨q9, _⟩
                · exact q9
                · rw [c58] at q9; cases q9
              refine j_aload_n (pc' := 62) C dX8_path_61 rfl 0 rfl ?_
              refine j_aload_n (pc' := 63) C dX8_path_62 rfl 0 rfl ?_
              refine j_get (v := .ref aT) (pc' := 66) C KX8 0 8 rfl (by decide) fl_X8_13 rfl rfl dX8_path_63 rfl ?_
              refine j_bipush (v := (nI 39)) (pc' := 68) C dX8_path_66 rfl (by decide +kernel) ?_
              refine j_iload_n (pc' := 69) C dX8_path_68 rfl 1 rfl ?_
              refine j_iadd (v := (nI (39 + j))) (pc' := 70) C dX8_path_69 rfl (nI_add 39 j) ?_
              refine j_nald (pc' := 71) C 1 rfl (by omega) (by decide) dX8_path_70 rfl ?_
              refine j_cVi (As := [.int (nI (t (39 + j)))]) (wr := []) (pc' := 74) C (c_X8_nextPath (a0 := a0) (th := (nI 0)) (aX := aX) (ty := ty) (sp := sp) (tk := tk) (pl := pl) (va := va) (fa := fa) (aT := aT) (aD := aD) (aS := aS) (aU := aU) (um := um) (aK := aK) (aI := aI) (aL := aL) (aE := aE) (aF := aF) (sm := sm) (aP := aP) (aW := aW) (aB := aB) (aM := aM) (t := t) (s := s) (stp := p2) (wh := w2) (d := d2) (g := t (39 + j)) (hT := by first | assumption | omega) (hS := by first | assumption | omega) (hV := hV) (hd := by omega) (hg := by omega)) Y_X8_nextPath (ml_X8_172) [0, 1, 2, 3, 4] [] rfl rfl rfl rfl (by decide) rfl rfl rfl dX8_path_71 rfl rfl rfl (Nat.le_of_ble_eq_true rfl) ⟨Nat.le_of_ble_eq_true rfl, Nat.le_of_ble_eq_true rfl⟩ ⟨Nat.le_of_ble_eq_true rfl, Nat.le_of_ble_eq_true rfl⟩ ⟨rfl, rfl⟩ (fun r6 w1 hQ => ?_)
              obtain ⟨d1_6, wh1_6, sp1_6, b_6, rfl, rfl, hF71⟩ := hQ
              refine j_istore (pc' := 76) C [(4, .int (bI b_6)), (0, .ref a0), (1, .int (nI j)), (2, .int (nI kk)), (3, .int (nI q)), (5, .int (nI n))] dX8_path_74 rfl (by decide) rfl ?_
              refine j_iinc (v := (nI (n + 1))) (pc' := 79) C [(5, .int (nI (n + 1))), (4, .int (bI b_6)), (0, .ref a0), (1, .int (nI j)), (2, .int (nI kk)), (3, .int (nI q))] dX8_path_76 rfl 5 rfl (inc_n n 1) (by decide) rfl ?_
              refine j_goto C 50 dX8_path_79 (by decide) ?_
              refine j_lsub [(0, .ref a0), (1, .int (nI j)), (2, .int (nI kk)), (3, .int (nI q)), (4, .int (bI b_6)), (5, .int (nI (n + 1)))] [2, 3, 4, 5, 1, 0] rfl ?_
              exact ih50 (n + 1) b_6 d1_6 wh1_6 sp1_6 (⟨by omega, hF71.1, by rw [(drop_cons hx4).2.1, ← rmL_g hx3]; rcases hF71.2 with q9 | q9; exact Or.inr q9; exact Or.inl q9⟩) (by omega)
        · refine ⟨Nat.zero_le _, hF42.1, ?_⟩
          rw [rmL_0 _ _ h2.1] at hF42
          rcases hF42.2 with q9 | q9
          · exact Or.inr q9
          · exact Or.inl q9
      · rw [in_R2 _ _ (by omega)] at c23
        refine j_iconst (v := (-1)) (pc' := 27) C dX8_path_26 rfl (by decide +kernel) ?_
        exact j_iret C hr hk hA dX8_path_27 (rfl) (⟨_, wh, stp, rfl, by unfold paQ; rw [if_pos ?_]; first | (simp_all; done) | (have c14b := (i_lt _ _).mp c14; rw [i_0] at c14b; rw [decide_eq_false (by omega)]; simp)⟩)

set_option maxHeartbeats 4000000 in
set_option maxRecDepth 100000 in
theorem c_X8_load {lch : Launch} {dG : va_G} {cyI cyZ cyO : ClassId} (a0 : Nat) (th : Int32) (aX : Nat) (ty : Int32) (sp : Int32) (tk : Int32) (pl : Int32) (va : Int32) (fa : Int32) (aT : Nat) (aD : Nat) (aS : Nat) (aU : Nat) (um : Int32) (aK : Nat) (aI : Nat) (aL : Nat) (aE : Nat) (aF : Nat) (sm : Int32) (aP : Nat) (aW : Nat) (sn : Int32) (aB : Nat) (aM : Nat) (t : Nat → Nat) (s : Nat → Nat) (stp : Nat → Nat) (wh : Nat → Nat) (l : Int32) (w : Int32) (hT : WT t) (hS : WS s) : Ki lch yX8_load cX8_load 5 .int (rmk 6) dG (cyI, cyZ, cyO) [.ref a0, .int l, .int w] [(a0, .inr (8, [.int th, .ref aX, .int ty, .int sp, .int tk, .int pl, .int va, .int fa, .ref aT, .ref aD, .ref aS, .ref aU, .int um, .ref aK, .ref aI, .ref aL, .ref aE, .ref aF, .int sm, .ref aP, .ref aW, .int sn, .ref aB, .ref aM])), (aT, .inl (cyI, 42, .inl (nA t))), (aS, .inl (cyI, 30, .inl (nA s))), (aP, .inl (cyI, 8, .inl (sA stp))), (aW, .inl (cyI, 8, .inl (nA wh)))] (fun r w1 => ∃ (d1 : Int32), ∃ (wh1 : Nat → Nat), ∃ (sp1 : Nat → Nat), w1 = [(a0, .inr (8, [.int (nI 0), .ref aX, .int ty, .int sp, .int tk, .int pl, .int va, .int fa, .ref aT, .ref aD, .ref aS, .ref aU, .int um, .ref aK, .ref aI, .ref aL, .ref aE, .ref aF, .int sm, .ref aP, .ref aW, .int d1, .ref aB, .ref aM])), (aT, .inl (cyI, 42, .inl (nA t))), (aS, .inl (cyI, 30, .inl (nA s))), (aP, .inl (cyI, 8, .inl (sA sp1))), (aW, .inl (cyI, 8, .inl (nA wh1)))] ∧ r = (loQ t s l w)) := by
  have h1 := hT.n
  refine Ki.of (own := RX8) rfl (by decide) (Nat.le_of_ble_eq_true rfl) (fun p0 e0 s0 m0 ar0 be0 me0 cd0 A0 C hr hk hnm hA => ?_)
  refine j_lsub [(0, .ref a0), (1, .int l), (2, .int w)] [0, 1, 2] rfl ?_
  refine j_aload_n (pc' := 1) C dX8_load_0 rfl 0 rfl ?_
  refine j_iconst (v := (nI 0)) (pc' := 2) C dX8_load_1 rfl (by decide +kernel) ?_
  refine j_put (pc' := 5) C [(a0, .inr (8, [.int (nI 0), .ref aX, .int ty, .int sp, .int tk, .int pl, .int va, .int fa, .ref aT, .ref aD, .ref aS, .ref aU, .int um, .ref aK, .ref aI, .ref aL, .ref aE, .ref aF, .int sm, .ref aP, .ref aW, .int sn, .ref aB, .ref aM])), (aT, .inl (cyI, 42, .inl (nA t))), (aS, .inl (cyI, 30, .inl (nA s))), (aP, .inl (cyI, 8, .inl (sA stp))), (aW, .inl (cyI, 8, .inl (nA wh)))] KX8 0 0 rfl (by decide) fl_X8_59 rfl rfl rfl rfl (Nat.le_of_ble_eq_true rfl) dX8_load_2 rfl rfl ?_
  refine j_aload_n (pc' := 6) C dX8_load_5 rfl 0 rfl ?_
  refine j_iload_n (pc' := 7) C dX8_load_6 rfl 1 rfl ?_
  refine j_cVi (As := [.int l]) (wr := [(aS, .inl (cyI, 30, .inl (nA s))), (aP, .inl (cyI, 8, .inl (sA stp))), (aW, .inl (cyI, 8, .inl (nA wh)))]) (pc' := 10) C (c_X8_isLoad (a0 := a0) (th := (nI 0)) (aX := aX) (ty := ty) (sp := sp) (tk := tk) (pl := pl) (va := va) (fa := fa) (aT := aT) (aD := aD) (aS := aS) (aU := aU) (um := um) (aK := aK) (aI := aI) (aL := aL) (aE := aE) (aF := aF) (sm := sm) (aP := aP) (aW := aW) (sn := sn) (aB := aB) (aM := aM) (t := t) (v := l) (hT := by first | assumption | omega)) Y_X8_isLoad (ml_X8_150) [0, 1] [2, 3, 4] rfl rfl rfl rfl (by decide) rfl rfl rfl dX8_load_7 rfl rfl rfl (Nat.le_of_ble_eq_true rfl) ⟨Nat.le_of_ble_eq_true rfl, Nat.le_of_ble_eq_true rfl⟩ ⟨Nat.le_of_ble_eq_true rfl, Nat.le_of_ble_eq_true rfl⟩ ⟨rfl, rfl⟩ (fun r1 w1 hQ => ?_)
  obtain ⟨rfl, rfl⟩ := hQ
  refine j_perm [(a0, .inr (8, [.int (nI 0), .ref aX, .int ty, .int sp, .int tk, .int pl, .int va, .int fa, .ref aT, .ref aD, .ref aS, .ref aU, .int um, .ref aK, .ref aI, .ref aL, .ref aE, .ref aF, .int sm, .ref aP, .ref aW, .int sn, .ref aB, .ref aM])), (aT, .inl (cyI, 42, .inl (nA t))), (aS, .inl (cyI, 30, .inl (nA s))), (aP, .inl (cyI, 8, .inl (sA stp))), (aW, .inl (cyI, 8, .inl (nA wh)))] [3, 4, 0, 1, 2] rfl rfl (by decide) ?_
  refine j_b_eq (pc' := 13) C 22 dX8_load_10 (by decide) rfl (fun c10 => ?_) (fun c10 => ?_)
  · refine j_iconst (v := (-1)) (pc' := 23) C dX8_load_22 rfl (by decide +kernel) ?_
    exact j_iret C hr hk hA dX8_load_23 (rfl) (⟨_, _, _, rfl, by unfold loQ; rw [if_pos (by simp_all)]⟩)
  · obtain ⟨j, hj, rfl⟩ := inR_t c10 (by omega)
    refine j_iload_n (pc' := 14) C dX8_load_13 rfl 2 rfl ?_
    refine j_iconst (v := (nI 0)) (pc' := 15) C dX8_load_14 rfl (by decide +kernel) ?_
    refine j_iconst (v := (nI 5)) (pc' := 16) C dX8_load_15 rfl (by decide +kernel) ?_
    refine j_cSi (As := [.int w, .int (nI 0), .int (nI 5)]) (wr := [(a0, .inr (8, [.int (nI 0), .ref aX, .int ty, .int sp, .int tk, .int pl, .int va, .int fa, .ref aT, .ref aD, .ref aS, .ref aU, .int um, .ref aK, .ref aI, .ref aL, .ref aE, .ref aF, .int sm, .ref aP, .ref aW, .int sn, .ref aB, .ref aM])), (aT, .inl (cyI, 42, .inl (nA t))), (aS, .inl (cyI, 30, .inl (nA s))), (aP, .inl (cyI, 8, .inl (sA stp))), (aW, .inl (cyI, 8, .inl (nA wh)))]) (pc' := 19) C (c_X8_in (x := w) (a := (nI 0)) (b := (nI 5)) ) Y_X8_in (ml_X8_63) [] [0, 1, 2, 3, 4] rfl rfl rfl rfl (by decide) dX8_load_16 rfl rfl rfl (Nat.le_of_ble_eq_true rfl) ⟨Nat.le_of_ble_eq_true rfl, Nat.le_of_ble_eq_true rfl⟩ ⟨Nat.le_of_ble_eq_true rfl, Nat.le_of_ble_eq_true rfl⟩ ⟨rfl, rfl⟩ (fun r2 w1 hQ => ?_)
    obtain ⟨rfl, rfl⟩ := hQ
    refine j_perm [(a0, .inr (8, [.int (nI 0), .ref aX, .int ty, .int sp, .int tk, .int pl, .int va, .int fa, .ref aT, .ref aD, .ref aS, .ref aU, .int um, .ref aK, .ref aI, .ref aL, .ref aE, .ref aF, .int sm, .ref aP, .ref aW, .int sn, .ref aB, .ref aM])), (aT, .inl (cyI, 42, .inl (nA t))), (aS, .inl (cyI, 30, .inl (nA s))), (aP, .inl (cyI, 8, .inl (sA stp))), (aW, .inl (cyI, 8, .inl (nA wh)))] [0, 1, 2, 3, 4] rfl rfl (by decide) ?_
    refine j_b_ne (pc' := 22) C 24 dX8_load_19 (by decide) rfl (fun c19 => ?_) (fun c19 => ?_)
    · rw [in_R2 _ _ (by omega)] at c19
      obtain ⟨q, hq, rfl⟩ := inR_t c19 (by omega)
      refine j_aload_n (pc' := 25) C dX8_load_24 rfl 0 rfl ?_
      refine j_iload_n (pc' := 26) C dX8_load_25 rfl 1 rfl ?_
      refine j_cVi (As := [.int (nI j)]) (wr := [(aP, .inl (cyI, 8, .inl (sA stp))), (aW, .inl (cyI, 8, .inl (nA wh)))]) (pc' := 29) C (c_X8_fedIn (a0 := a0) (th := (nI 0)) (aX := aX) (ty := ty) (sp := sp) (tk := tk) (pl := pl) (va := va) (fa := fa) (aT := aT) (aD := aD) (aS := aS) (aU := aU) (um := um) (aK := aK) (aI := aI) (aL := aL) (aE := aE) (aF := aF) (sm := sm) (aP := aP) (aW := aW) (sn := sn) (aB := aB) (aM := aM) (t := t) (s := s) (l := j) (hT := by first | assumption | omega) (hS := by first | assumption | omega) (hl := by first | assumption | omega)) Y_X8_fedIn (ml_X8_121) [0, 1, 2] [3, 4] rfl rfl rfl rfl (by decide) rfl rfl rfl dX8_load_26 rfl rfl rfl (Nat.le_of_ble_eq_true rfl) ⟨Nat.le_of_ble_eq_true rfl, Nat.le_of_ble_eq_true rfl⟩ ⟨Nat.le_of_ble_eq_true rfl, Nat.le_of_ble_eq_true rfl⟩ ⟨rfl, rfl⟩ (fun r3 w1 hQ => ?_)
      obtain ⟨rfl, rfl⟩ := hQ
      refine j_perm [(a0, .inr (8, [.int (nI 0), .ref aX, .int ty, .int sp, .int tk, .int pl, .int va, .int fa, .ref aT, .ref aD, .ref aS, .ref aU, .int um, .ref aK, .ref aI, .ref aL, .ref aE, .ref aF, .int sm, .ref aP, .ref aW, .int sn, .ref aB, .ref aM])), (aT, .inl (cyI, 42, .inl (nA t))), (aS, .inl (cyI, 30, .inl (nA s))), (aP, .inl (cyI, 8, .inl (sA stp))), (aW, .inl (cyI, 8, .inl (nA wh)))] [2, 3, 4, 0, 1] rfl rfl (by decide) ?_
      refine j_istore_n (pc' := 30) C [(3, .int (nI (fedN t s j))), (0, .ref a0), (1, .int (nI j)), (2, .int (nI q))] dX8_load_29 rfl (by decide) rfl ?_
      refine j_aload_n (pc' := 31) C dX8_load_30 rfl 1 rfl ?_
      refine j_get (v := .ref aS) (pc' := 34) C KX8 0 10 rfl (by decide) fl_X8_19 rfl rfl dX8_load_31 rfl ?_
      refine j_iconst (v := (nI 0)) (pc' := 35) C dX8_load_34 rfl (by decide +kernel) ?_
      refine j_iload_n (pc' := 36) C dX8_load_35 rfl 2 rfl ?_
      refine j_iadd (v := (nI j)) (pc' := 37) C dX8_load_36 rfl (add_0I j) ?_
      refine j_nald (pc' := 38) C 2 rfl (by omega) (by decide) dX8_load_37 rfl ?_
      refine j_istore (pc' := 40) C [(4, .int (nI (s j))), (3, .int (nI (fedN t s j))), (0, .ref a0), (1, .int (nI j)), (2, .int (nI q))] dX8_load_38 rfl (by decide) rfl ?_
      refine j_iload_n (pc' := 41) C dX8_load_40 rfl 4 rfl ?_
      refine j_iconst (v := (nI 3)) (pc' := 42) C dX8_load_41 rfl (by decide +kernel) ?_
      refine j_nc_ge (pc' := 45) C 73 dX8_load_42 (by decide) rfl (by omega) (by omega) (fun c42 => ?_) (fun c42 => ?_)
      · refine j_iload_n (pc' := 74) C dX8_load_73 rfl 4 rfl ?_
        refine j_iconst (v := (nI 3)) (pc' := 75) C dX8_load_74 rfl (by decide +kernel) ?_
        refine j_nc_ne (pc' := 78) C 87 dX8_load_75 (by decide) rfl (by omega) (by omega) (fun c75 => ?_) (fun c75 => ?_)
        · refine j_iload_n (pc' := 88) C dX8_load_87 rfl 4 rfl ?_
          refine j_iconst (v := (nI 4)) (pc' := 89) C dX8_load_88 rfl (by decide +kernel) ?_
          refine j_nc_ne (pc' := 92) C 101 dX8_load_89 (by decide) rfl (by omega) (by omega) (fun c89 => ?_) (fun c89 => ?_)
          · refine j_aload_n (pc' := 102) C dX8_load_101 rfl 2 rfl ?_
            refine j_iload_n (pc' := 103) C dX8_load_102 rfl 3 rfl ?_
            refine j_cVi (As := [.int (nI j)]) (wr := []) (pc' := 106) C (c_X8_pathMany (a0 := a0) (th := (nI 0)) (aX := aX) (ty := ty) (sp := sp) (tk := tk) (pl := pl) (va := va) (fa := fa) (aT := aT) (aD := aD) (aS := aS) (aU := aU) (um := um) (aK := aK) (aI := aI) (aL := aL) (aE := aE) (aF := aF) (sm := sm) (aP := aP) (aW := aW) (sn := sn) (aB := aB) (aM := aM) (t := t) (s := s) (stp := stp) (wh := wh) (l := j) (hT := by first | assumption | omega) (hS := by first | assumption | omega) (hl := by first | assumption | omega)) Y_X8_pathMany (ml_X8_153) [0, 1, 2, 3, 4] [] rfl rfl rfl rfl (by decide) rfl rfl rfl dX8_load_103 rfl rfl rfl (Nat.le_of_ble_eq_true rfl) ⟨Nat.le_of_ble_eq_true rfl, Nat.le_of_ble_eq_true rfl⟩ ⟨Nat.le_of_ble_eq_true rfl, Nat.le_of_ble_eq_true rfl⟩ ⟨rfl, rfl⟩ (fun r4 w1 hQ => ?_)
            obtain ⟨d1_4, wh1_4, sp1_4, rfl, rfl⟩ := hQ
            exact j_iret C hr hk hA dX8_load_106 (rfl) (⟨_, _, _, rfl, by unfold loQ; rw [if_neg (by simp_all), nI_clamp (n := j) (by omega)]; simp only [nI_eq (show q < 2147483648 by omega) (show 0 < 2147483648 by decide), nI_eq (show q < 2147483648 by omega) (show 1 < 2147483648 by decide), nI_eq (show q < 2147483648 by omega) (show 2 < 2147483648 by decide), nI_eq (show q < 2147483648 by omega) (show 3 < 2147483648 by decide), nI_eq (show q < 2147483648 by omega) (show 4 < 2147483648 by decide)]; repeat (first | rw [if_neg (by omega)] | rw [if_pos (by omega)]); try rfl⟩)
          · refine j_iload (pc' := 94) C dX8_load_92 rfl 0 rfl ?_
            refine j_iload_n (pc' := 95) C dX8_load_94 rfl 1 rfl ?_
            refine j_iconst (v := (nI 4294967295)) (pc' := 96) C dX8_load_95 rfl (by decide +kernel) ?_
            refine j_ixor (v := (nI ((fedN t s j) ^^^ 4294967295))) (pc' := 97) C dX8_load_96 rfl (fb_xorI (fedN t s j) 4294967295) ?_
            refine j_iand (v := (nI ((s j) &&& ((fedN t s j) ^^^ 4294967295)))) (pc' := 98) C dX8_load_97 rfl (fa_and (s j) ((fedN t s j) ^^^ 4294967295)) ?_
            refine j_goto C 106 dX8_load_98 (by decide) ?_
            exact j_iret C hr hk hA dX8_load_106 (rfl) (⟨_, _, _, rfl, by unfold loQ; rw [if_neg (by simp_all), nI_clamp (n := j) (by omega)]; simp only [nI_eq (show q < 2147483648 by omega) (show 0 < 2147483648 by decide), nI_eq (show q < 2147483648 by omega) (show 1 < 2147483648 by decide), nI_eq (show q < 2147483648 by omega) (show 2 < 2147483648 by decide), nI_eq (show q < 2147483648 by omega) (show 3 < 2147483648 by decide), nI_eq (show q < 2147483648 by omega) (show 4 < 2147483648 by decide)]; repeat (first | rw [if_neg (by omega)] | rw [if_pos (by omega)]); try rfl⟩)
        · refine j_iload_n (pc' := 79) C dX8_load_78 rfl 1 rfl ?_
          refine j_iload (pc' := 81) C dX8_load_79 rfl 0 rfl ?_
          refine j_iconst (v := (nI 4294967295)) (pc' := 82) C dX8_load_81 rfl (by decide +kernel) ?_
          refine j_ixor (v := (nI ((s j) ^^^ 4294967295))) (pc' := 83) C dX8_load_82 rfl (fb_xorI (s j) 4294967295) ?_
          refine j_iand (v := (nI ((fedN t s j) &&& ((s j) ^^^ 4294967295)))) (pc' := 84) C dX8_load_83 rfl (fa_and (fedN t s j) ((s j) ^^^ 4294967295)) ?_
          refine j_goto C 106 dX8_load_84 (by decide) ?_
          exact j_iret C hr hk hA dX8_load_106 (rfl) (⟨_, _, _, rfl, by unfold loQ; rw [if_neg (by simp_all), nI_clamp (n := j) (by omega)]; simp only [nI_eq (show q < 2147483648 by omega) (show 0 < 2147483648 by decide), nI_eq (show q < 2147483648 by omega) (show 1 < 2147483648 by decide), nI_eq (show q < 2147483648 by omega) (show 2 < 2147483648 by decide), nI_eq (show q < 2147483648 by omega) (show 3 < 2147483648 by decide), nI_eq (show q < 2147483648 by omega) (show 4 < 2147483648 by decide)]; repeat (first | rw [if_neg (by omega)] | rw [if_pos (by omega)]); try rfl⟩)
      · refine j_iload_n (pc' := 46) C dX8_load_45 rfl 4 rfl ?_
        refine j_nz_ne (pc' := 49) C 61 dX8_load_46 (by decide) rfl (by omega) (fun c46 => ?_) (fun c46 => ?_)
        · refine j_iload_n (pc' := 62) C dX8_load_61 rfl 4 rfl ?_
          refine j_iconst (v := (nI 1)) (pc' := 63) C dX8_load_62 rfl (by decide +kernel) ?_
          refine j_nc_ne (pc' := 66) C 70 dX8_load_63 (by decide) rfl (by omega) (by omega) (fun c63 => ?_) (fun c63 => ?_)
          · refine j_iload (pc' := 72) C dX8_load_70 rfl 0 rfl ?_
            exact j_iret C hr hk hA dX8_load_72 (rfl) (⟨_, _, _, rfl, by unfold loQ; rw [if_neg (by simp_all), nI_clamp (n := j) (by omega)]; simp only [nI_eq (show q < 2147483648 by omega) (show 0 < 2147483648 by decide), nI_eq (show q < 2147483648 by omega) (show 1 < 2147483648 by decide), nI_eq (show q < 2147483648 by omega) (show 2 < 2147483648 by decide), nI_eq (show q < 2147483648 by omega) (show 3 < 2147483648 by decide), nI_eq (show q < 2147483648 by omega) (show 4 < 2147483648 by decide)]; repeat (first | rw [if_neg (by omega)] | rw [if_pos (by omega)]); try rfl⟩)
          · refine j_iload_n (pc' := 67) C dX8_load_66 rfl 1 rfl ?_
            refine j_goto C 72 dX8_load_67 (by decide) ?_
            exact j_iret C hr hk hA dX8_load_72 (rfl) (⟨_, _, _, rfl, by unfold loQ; rw [if_neg (by simp_all), nI_clamp (n := j) (by omega)]; simp only [nI_eq (show q < 2147483648 by omega) (show 0 < 2147483648 by decide), nI_eq (show q < 2147483648 by omega) (show 1 < 2147483648 by decide), nI_eq (show q < 2147483648 by omega) (show 2 < 2147483648 by decide), nI_eq (show q < 2147483648 by omega) (show 3 < 2147483648 by decide), nI_eq (show q < 2147483648 by omega) (show 4 < 2147483648 by decide)]; repeat (first | rw [if_neg (by omega)] | rw [if_pos (by omega)]); try rfl⟩)
        · refine j_aload_n (pc' := 50) C dX8_load_49 rfl 2 rfl ?_
          refine j_get (v := .ref aT) (pc' := 53) C KX8 0 8 rfl (by decide) fl_X8_13 rfl rfl dX8_load_50 rfl ?_
          refine j_bipush (v := (nI 39)) (pc' := 55) C dX8_load_53 rfl (by decide +kernel) ?_
          refine j_iload_n (pc' := 56) C dX8_load_55 rfl 3 rfl ?_
          refine j_iadd (v := (nI (39 + j))) (pc' := 57) C dX8_load_56 rfl (nI_add 39 j) ?_
          refine j_nald (pc' := 58) C 1 rfl (by omega) (by decide) dX8_load_57 rfl ?_
          refine j_goto C 72 dX8_load_58 (by decide) ?_
          exact j_iret C hr hk hA dX8_load_72 (rfl) (⟨_, _, _, rfl, by unfold loQ; rw [if_neg (by simp_all), nI_clamp (n := j) (by omega)]; simp only [nI_eq (show q < 2147483648 by omega) (show 0 < 2147483648 by decide), nI_eq (show q < 2147483648 by omega) (show 1 < 2147483648 by decide), nI_eq (show q < 2147483648 by omega) (show 2 < 2147483648 by decide), nI_eq (show q < 2147483648 by omega) (show 3 < 2147483648 by decide), nI_eq (show q < 2147483648 by omega) (show 4 < 2147483648 by decide)]; repeat (first | rw [if_neg (by omega)] | rw [if_pos (by omega)]); try rfl⟩)
    · rw [in_R2 _ _ (by omega)] at c19
      refine j_iconst (v := (-1)) (pc' := 23) C dX8_load_22 rfl (by decide +kernel) ?_
      exact j_iret C hr hk hA dX8_load_23 (rfl) (⟨_, _, _, rfl, by unfold loQ; rw [if_pos (by simp_all)]⟩)

set_option maxHeartbeats 4000000 in
set_option maxRecDepth 100000 in
theorem c_X8_shortest {lch : Launch} {dG : va_G} {cyI cyZ cyO : ClassId} (a0 : Nat) (th : Int32) (aX : Nat) (ty : Int32) (sp : Int32) (tk : Int32) (pl : Int32) (va : Int32) (fa : Int32) (aT : Nat) (aD : Nat) (aS : Nat) (aU : Nat) (um : Int32) (aK : Nat) (aI : Nat) (aL : Nat) (aE : Nat) (aF : Nat) (sm : Int32) (aP : Nat) (aW : Nat) (sn : Int32) (aB : Nat) (aM : Nat) (t : Nat → Nat) (s : Nat → Nat) (stp : Nat → Nat) (wh : Nat → Nat) (be : Nat → Nat) (l : Int32) (v : Int32) (k : Int32) (hT : WT t) (hS : WS s) : Ki lch yX8_shortest cX8_shortest 6 .int (rmk 5) dG (cyI, cyZ, cyO) [.ref a0, .int l, .int v, .int k] [(a0, .inr (8, [.int th, .ref aX, .int ty, .int sp, .int tk, .int pl, .int va, .int fa, .ref aT, .ref aD, .ref aS, .ref aU, .int um, .ref aK, .ref aI, .ref aL, .ref aE, .ref aF, .int sm, .ref aP, .ref aW, .int sn, .ref aB, .ref aM])), (aT, .inl (cyI, 42, .inl (nA t))), (aS, .inl (cyI, 30, .inl (nA s))), (aP, .inl (cyI, 8, .inl (sA stp))), (aW, .inl (cyI, 8, .inl (nA wh))), (aB, .inl (cyI, 8, .inl (nA be)))] (fun r w1 => ∃ (d1 : Int32), ∃ (wh1 : Nat → Nat), ∃ (sp1 : Nat → Nat), ∃ (be1 : Nat → Nat), w1 = [(a0, .inr (8, [.int (nI 0), .ref aX, .int ty, .int sp, .int tk, .int pl, .int va, .int fa, .ref aT, .ref aD, .ref aS, .ref aU, .int um, .ref aK, .ref aI, .ref aL, .ref aE, .ref aF, .int sm, .ref aP, .ref aW, .int d1, .ref aB, .ref aM])), (aT, .inl (cyI, 42, .inl (nA t))), (aS, .inl (cyI, 30, .inl (nA s))), (aP, .inl (cyI, 8, .inl (sA sp1))), (aW, .inl (cyI, 8, .inl (nA wh1))), (aB, .inl (cyI, 8, .inl (nA be1)))] ∧ r = (stQ t s l v k)) := by
  have h1 := hT.n
  refine Ki.of (own := RX8) rfl (by decide) (Nat.le_of_ble_eq_true rfl) (fun p0 e0 s0 m0 ar0 be0 me0 cd0 A0 C hr hk hnm hA => ?_)
  refine j_lsub [(0, .ref a0), (1, .int l), (2, .int v), (3, .int k)] [0, 1, 2, 3] rfl ?_
  refine j_aload_n (pc' := 1) C dX8_shortest_0 rfl 0 rfl ?_
  refine j_iconst (v := (nI 0)) (pc' := 2) C dX8_shortest_1 rfl (by decide +kernel) ?_
  refine j_put (pc' := 5) C [(a0, .inr (8, [.int (nI 0), .ref aX, .int ty, .int sp, .int tk, .int pl, .int va, .int fa, .ref aT, .ref aD, .ref aS, .ref aU, .int um, .ref aK, .ref aI, .ref aL, .ref aE, .ref aF, .int sm, .ref aP, .ref aW, .int sn, .ref aB, .ref aM])), (aT, .inl (cyI, 42, .inl (nA t))), (aS, .inl (cyI, 30, .inl (nA s))), (aP, .inl (cyI, 8, .inl (sA stp))), (aW, .inl (cyI, 8, .inl (nA wh))), (aB, .inl (cyI, 8, .inl (nA be)))] KX8 0 0 rfl (by decide) fl_X8_59 rfl rfl rfl rfl (Nat.le_of_ble_eq_true rfl) dX8_shortest_2 rfl rfl ?_
  refine j_aload_n (pc' := 6) C dX8_shortest_5 rfl 0 rfl ?_
  refine j_iload_n (pc' := 7) C dX8_shortest_6 rfl 1 rfl ?_
  refine j_cVi (As := [.int l]) (wr := [(aS, .inl (cyI, 30, .inl (nA s))), (aP, .inl (cyI, 8, .inl (sA stp))), (aW, .inl (cyI, 8, .inl (nA wh))), (aB, .inl (cyI, 8, .inl (nA be)))]) (pc' := 10) C (c_X8_isLoad (a0 := a0) (th := (nI 0)) (aX := aX) (ty := ty) (sp := sp) (tk := tk) (pl := pl) (va := va) (fa := fa) (aT := aT) (aD := aD) (aS := aS) (aU := aU) (um := um) (aK := aK) (aI := aI) (aL := aL) (aE := aE) (aF := aF) (sm := sm) (aP := aP) (aW := aW) (sn := sn) (aB := aB) (aM := aM) (t := t) (v := l) (hT := by first | assumption | omega)) Y_X8_isLoad (ml_X8_150) [0, 1] [2, 3, 4, 5] rfl rfl rfl rfl (by decide) rfl rfl rfl dX8_shortest_7 rfl rfl rfl (Nat.le_of_ble_eq_true rfl) ⟨Nat.le_of_ble_eq_true rfl, Nat.le_of_ble_eq_true rfl⟩ ⟨Nat.le_of_ble_eq_true rfl, Nat.le_of_ble_eq_true rfl⟩ ⟨rfl, rfl⟩ (fun r1 w1 hQ => ?_)
  obtain ⟨rfl, rfl⟩ := hQ
  refine j_perm [(a0, .inr (8, [.int (nI 0), .ref aX, .int ty, .int sp, .int tk, .int pl, .int va, .int fa, .ref aT, .ref aD, .ref aS, .ref aU, .int um, .ref aK, .ref aI, .ref aL, .ref aE, .ref aF, .int sm, .ref aP, .ref aW, .int sn, .ref aB, .ref aM])), (aT, .inl (cyI, 42, .inl (nA t))), (aS, .inl (cyI, 30, .inl (nA s))), (aP, .inl (cyI, 8, .inl (sA stp))), (aW, .inl (cyI, 8, .inl (nA wh))), (aB, .inl (cyI, 8, .inl (nA be)))] [4, 5, 0, 1, 2, 3] rfl rfl (by decide) ?_
  refine j_b_eq (pc' := 13) C 25 dX8_shortest_10 (by decide) rfl (fun c10 => ?_) (fun c10 => ?_)
  · refine j_iconst (v := (-1)) (pc' := 26) C dX8_shortest_25 rfl (by decide +kernel) ?_
    exact j_iret C hr hk hA dX8_shortest_26 (rfl) (⟨_, _, _, _, rfl, by unfold stQ; rw [if_pos ?_]; first | (simp_all; done) | (rw [i_le, i_m1] at c22; rw [decide_eq_false (by omega)]; simp)⟩)
  · obtain ⟨j, hj, rfl⟩ := inR_t c10 (by omega)
    have h2 := hT.l hj
    refine j_iload_n (pc' := 14) C dX8_shortest_13 rfl 2 rfl ?_
    refine j_cSi (As := [.int v]) (wr := [(a0, .inr (8, [.int (nI 0), .ref aX, .int ty, .int sp, .int tk, .int pl, .int va, .int fa, .ref aT, .ref aD, .ref aS, .ref aU, .int um, .ref aK, .ref aI, .ref aL, .ref aE, .ref aF, .int sm, .ref aP, .ref aW, .int sn, .ref aB, .ref aM])), (aT, .inl (cyI, 42, .inl (nA t))), (aS, .inl (cyI, 30, .inl (nA s))), (aP, .inl (cyI, 8, .inl (sA stp))), (aW, .inl (cyI, 8, .inl (nA wh))), (aB, .inl (cyI, 8, .inl (nA be)))]) (pc' := 17) C (c_X8_isState (v := v) ) Y_X8_isState (ml_X8_179) [] [0, 1, 2, 3, 4, 5] rfl rfl rfl rfl (by decide) dX8_shortest_14 rfl rfl rfl (Nat.le_of_ble_eq_true rfl) ⟨Nat.le_of_ble_eq_true rfl, Nat.le_of_ble_eq_true rfl⟩ ⟨Nat.le_of_ble_eq_true rfl, Nat.le_of_ble_eq_true rfl⟩ ⟨rfl, rfl⟩ (fun r2 w1 hQ => ?_)
    obtain ⟨rfl, rfl⟩ := hQ
    refine j_perm [(a0, .inr (8, [.int (nI 0), .ref aX, .int ty, .int sp, .int tk, .int pl, .int va, .int fa, .ref aT, .ref aD, .ref aS, .ref aU, .int um, .ref aK, .ref aI, .ref aL, .ref aE, .ref aF, .int sm, .ref aP, .ref aW, .int sn, .ref aB, .ref aM])), (aT, .inl (cyI, 42, .inl (nA t))), (aS, .inl (cyI, 30, .inl (nA s))), (aP, .inl (cyI, 8, .inl (sA stp))), (aW, .inl (cyI, 8, .inl (nA wh))), (aB, .inl (cyI, 8, .inl (nA be)))] [0, 1, 2, 3, 4, 5] rfl rfl (by decide) ?_
    refine j_b_eq (pc' := 20) C 25 dX8_shortest_17 (by decide) rfl (fun c17 => ?_) (fun c17 => ?_)
    · refine j_iconst (v := (-1)) (pc' := 26) C dX8_shortest_25 rfl (by decide +kernel) ?_
      exact j_iret C hr hk hA dX8_shortest_26 (rfl) (⟨_, _, _, _, rfl, by unfold stQ; rw [if_pos ?_]; first | (simp_all; done) | (rw [i_le, i_m1] at c22; rw [decide_eq_false (by omega)]; simp)⟩)
    · obtain ⟨q, hq, rfl⟩ := inR_t c17 (by omega)
      refine j_iload_n (pc' := 21) C dX8_shortest_20 rfl 3 rfl ?_
      refine j_iconst (v := (-1)) (pc' := 22) C dX8_shortest_21 rfl (by decide +kernel) ?_
      refine j_ic_ge (pc' := 25) C 27 dX8_shortest_22 (by decide) rfl (fun c22 => ?_) (fun c22 => ?_)
      · refine j_bipush (v := (nI 99)) (pc' := 29) C dX8_shortest_27 rfl (by decide +kernel) ?_
        refine j_istore (pc' := 31) C [(4, .int (nI 99)), (0, .ref a0), (1, .int (nI j)), (2, .int (nI q)), (3, .int k)] dX8_shortest_29 rfl (by decide) rfl ?_
        refine j_aload_n (pc' := 32) C dX8_shortest_31 rfl 1 rfl ?_
        refine j_cVv (As := []) (wr := [(aT, .inl (cyI, 42, .inl (nA t))), (aS, .inl (cyI, 30, .inl (nA s))), (aB, .inl (cyI, 8, .inl (nA be)))]) (pc' := 35) C (c_X8_beginsPath (a0 := a0) (th := (nI 0)) (aX := aX) (ty := ty) (sp := sp) (tk := tk) (pl := pl) (va := va) (fa := fa) (aT := aT) (aD := aD) (aS := aS) (aU := aU) (um := um) (aK := aK) (aI := aI) (aL := aL) (aE := aE) (aF := aF) (sm := sm) (aP := aP) (aW := aW) (sn := sn) (aB := aB) (aM := aM) (stp := stp) (wh := wh) ) Y_X8_beginsPath (ml_X8_169) [0, 3, 4] [1, 2, 5] rfl rfl rfl rfl (by decide) rfl rfl rfl dX8_shortest_32 rfl rfl rfl (Nat.le_of_ble_eq_true rfl) ⟨Nat.le_of_ble_eq_true rfl, Nat.le_of_ble_eq_true rfl⟩ ⟨Nat.le_of_ble_eq_true rfl, Nat.le_of_ble_eq_true rfl⟩ ⟨rfl, rfl⟩ (fun w1 hQ => ?_)
        obtain rfl := hQ
        refine j_perm [(a0, .inr (8, [.int (nI 0), .ref aX, .int ty, .int sp, .int tk, .int pl, .int va, .int fa, .ref aT, .ref aD, .ref aS, .ref aU, .int um, .ref aK, .ref aI, .ref aL, .ref aE, .ref aF, .int sm, .ref aP, .ref aW, .int (mI 1), .ref aB, .ref aM])), (aT, .inl (cyI, 42, .inl (nA t))), (aS, .inl (cyI, 30, .inl (nA s))), (aP, .inl (cyI, 8, .inl (sA (uN stp 0 0)))), (aW, .inl (cyI, 8, .inl (nA (uN wh 0 0)))), (aB, .inl (cyI, 8, .inl (nA be)))] [3, 0, 1, 4, 5, 2] rfl rfl (by decide) ?_
        refine j_lsub [(0, .ref a0), (1, .int (nI j)), (2, .int (nI q)), (3, .int k), (4, .int (nI 99))] [1, 2, 3, 4, 0] rfl ?_
        refine j_loop5 (fun (d2 : Nat) (w2 : Nat → Nat) (p2 : Nat → Nat) (le : Nat) (be2 : Nat → Nat) => [(a0, .inr (8, [.int (nI 0), .ref aX, .int ty, .int sp, .int tk, .int pl, .int va, .int fa, .ref aT, .ref aD, .ref aS, .ref aU, .int um, .ref aK, .ref aI, .ref aL, .ref aE, .ref aF, .int sm, .ref aP, .ref aW, .int (mI d2), .ref aB, .ref aM])), (aT, .inl (cyI, 42, .inl (nA t))), (aS, .inl (cyI, 30, .inl (nA s))), (aP, .inl (cyI, 8, .inl (sA p2))), (aW, .inl (cyI, 8, .inl (nA w2))), (aB, .inl (cyI, 8, .inl (nA be2)))]) (fun (d2 : Nat) (w2 : Nat → Nat) (p2 : Nat → Nat) (le : Nat) (be2 : Nat → Nat) => [(0, .ref a0), (1, .int (nI j)), (2, .int (nI q)), (3, .int k), (4, .int (nI le))]) (fun (d2 : Nat) (w2 : Nat → Nat) (p2 : Nat → Nat) (le : Nat) (be2 : Nat → Nat) => []) (fun (d2 : Nat) (w2 : Nat → Nat) (p2 : Nat → Nat) (le : Nat) (be2 : Nat → Nat) => VP t w2 p2 d2 ∧ 1 ≤ d2 ∧ le ≤ 99 ∧ ∃ res, (rmL t s (t (39 + j)) w2 p2 d2).foldl (stp1 t s q) res = stB t s j q ∧ RB res le be2) (fun (d2 : Nat) (w2 : Nat → Nat) (p2 : Nat → Nat) (le : Nat) (be2 : Nat → Nat) => (rmL t s (t (39 + j)) w2 p2 d2).length) ?_ 1 (uN wh 0 0) (uN stp 0 0) 99 be ?_
        · intro d2 w2 p2 le be2 hI35 ih35
          obtain ⟨hV, hd, hle, res, hres, hRB⟩ := hI35
          refine j_aload_n (pc' := 36) C dX8_shortest_35 rfl 0 rfl ?_
          refine j_aload_n (pc' := 37) C dX8_shortest_36 rfl 0 rfl ?_
          refine j_get (v := .ref aT) (pc' := 40) C KX8 0 8 rfl (by decide) fl_X8_13 rfl rfl dX8_shortest_37 rfl ?_
          refine j_bipush (v := (nI 39)) (pc' := 42) C dX8_shortest_40 rfl (by decide +kernel) ?_
          refine j_iload_n (pc' := 43) C dX8_shortest_42 rfl 1 rfl ?_
          refine j_iadd (v := (nI (39 + j))) (pc' := 44) C dX8_shortest_43 rfl (nI_add 39 j) ?_
          refine j_nald (pc' := 45) C 1 rfl (by omega) (by decide) dX8_shortest_44 rfl ?_
          refine j_cVi (As := [.int (nI (t (39 + j)))]) (wr := [(aB, .inl (cyI, 8, .inl (nA be2)))]) (pc' := 48) C (c_X8_nextPath (a0 := a0) (th := (nI 0)) (aX := aX) (ty := ty) (sp := sp) (tk := tk) (pl := pl) (va := va) (fa := fa) (aT := aT) (aD := aD) (aS := aS) (aU := aU) (um := um) (aK := aK) (aI := aI) (aL := aL) (aE := aE) (aF := aF) (sm := sm) (aP := aP) (aW := aW) (aB := aB) (aM := aM) (t := t) (s := s) (stp := p2) (wh := w2) (d := d2) (g := t (39 + j)) (hT := by first | assumption | omega) (hS := by first | assumption | omega) (hV := hV) (hd := hd) (hg := by omega)) Y_X8_nextPath (ml_X8_172) [0, 1, 2, 3, 4] [5] rfl rfl rfl rfl (by decide) rfl rfl rfl dX8_shortest_45 rfl rfl rfl (Nat.le_of_ble_eq_true rfl) ⟨Nat.le_of_ble_eq_true rfl, Nat.le_of_ble_eq_true rfl⟩ ⟨Nat.le_of_ble_eq_true rfl, Nat.le_of_ble_eq_true rfl⟩ ⟨rfl, rfl⟩ (fun r4 w1 hQ => ?_)
          obtain ⟨d1_4, wh1_4, sp1_4, b_4, rfl, rfl, hF45⟩ := hQ
          refine j_perm [(a0, .inr (8, [.int (nI 0), .ref aX, .int ty, .int sp, .int tk, .int pl, .int va, .int fa, .ref aT, .ref aD, .ref aS, .ref aU, .int um, .ref aK, .ref aI, .ref aL, .ref aE, .ref aF, .int sm, .ref aP, .ref aW, .int (mI d1_4), .ref aB, .ref aM])), (aT, .inl (cyI, 42, .inl (nA t))), (aS, .inl (cyI, 30, .inl (nA s))), (aP, .inl (cyI, 8, .inl (sA sp1_4))), (aW, .inl (cyI, 8, .inl (nA wh1_4))), (aB, .inl (cyI, 8, .inl (nA be2)))] [1, 2, 3, 4, 5, 0] rfl rfl (by decide) ?_
          refine j_b_eq (pc' := 51) C 112 dX8_shortest_48 (by decide) rfl (fun c48 => ?_) (fun c48 => ?_)
          · have hx1 : rmL t s (t (39 + j)) w2 p2 d2 = [] := by
              rcases hF45.2 with ⟨_, q9⟩ | ⟨q9, _⟩
              · exact q9
              · rw [c48] at q9; cases q9
            rw [hx1, List.foldl_nil] at hres
            refine j_iload (pc' := 114) C dX8_shortest_112 rfl 4 rfl ?_
            refine j_bipush (v := (nI 99)) (pc' := 116) C dX8_shortest_114 rfl (by decide +kernel) ?_
            refine j_nc_ne (pc' := 119) C 122 dX8_shortest_116 (by decide) rfl (by omega) (by omega) (fun c116 => ?_) (fun c116 => ?_)
            · refine j_iload_n (pc' := 123) C dX8_shortest_122 rfl 3 rfl ?_
              refine j_if_ge (pc' := 126) C 131 dX8_shortest_123 (by decide) rfl (fun c123 => ?_) (fun c123 => ?_)
              · obtain ⟨kk, hkk, rfl⟩ := nI_of (x := k) (fun q9 => by rw [i_lt] at q9; rw [i_le] at c123; omega)
                refine j_iload_n (pc' := 132) C dX8_shortest_131 rfl 3 rfl ?_
                refine j_iload (pc' := 134) C dX8_shortest_132 rfl 4 rfl ?_
                refine j_nc_ge (pc' := 137) C 146 dX8_shortest_134 (by decide) rfl (by omega) (by omega) (fun c134 => ?_) (fun c134 => ?_)
                · refine j_bipush (v := (-9)) (pc' := 148) C dX8_shortest_146 rfl (by decide +kernel) ?_
                  exact j_iret C hr hk hA dX8_shortest_148 (rfl) (⟨_, _, _, _, rfl, by rw [i_le, i_m1] at c22; unfold stQ; rw [if_neg (by rw [decide_eq_true c22]; simp_all), nI_clamp (n := j) (by omega), nI_clamp (n := q) (by omega), ← hres]; rcases res with _ | pp; exact absurd hRB c116; have hq1 := hRB.1; have hq2 := hRB.2.2; dsimp only; rw [nI_toInt hkk, if_neg (by omega), nI_clamp hkk, List.getElem?_eq_none (by omega)]⟩)
                · have hkl : kk < 8 := by rcases res with _ | pp; (have : le = 99 := hRB; omega); (have := hRB.1; have := hRB.2.1; omega)
                  refine j_aload_n (pc' := 138) C dX8_shortest_137 rfl 0 rfl ?_
                  refine j_get (v := .ref aB) (pc' := 141) C KX8 0 22 rfl (by decide) fl_X8_47 rfl rfl dX8_shortest_138 rfl ?_
                  refine j_iload_n (pc' := 142) C dX8_shortest_141 rfl 3 rfl ?_
                  refine j_nald (pc' := 143) C 5 rfl (by omega) (by decide) dX8_shortest_142 rfl ?_
                  refine j_goto C 148 dX8_shortest_143 (by decide) ?_
                  exact j_iret C hr hk hA dX8_shortest_148 (rfl) (⟨_, _, _, _, rfl, by rw [i_le, i_m1] at c22; unfold stQ; rw [if_neg (by rw [decide_eq_true c22]; simp_all), nI_clamp (n := j) (by omega), nI_clamp (n := q) (by omega), ← hres]; rcases res with _ | pp; exact absurd hRB c116; have hq1 := hRB.1; have hq2 := hRB.2.2; dsimp only; rw [nI_toInt hkk, if_neg (by omega), nI_clamp hkk, hq2 kk (by omega)]⟩)
              · refine j_iload (pc' := 128) C dX8_shortest_126 rfl 4 rfl ?_
                refine j_goto C 148 dX8_shortest_128 (by decide) ?_
                exact j_iret C hr hk hA dX8_shortest_148 (rfl) (⟨_, _, _, _, rfl, by rw [i_le, i_m1] at c22; unfold stQ; rw [if_neg (by rw [decide_eq_true c22]; simp_all), nI_clamp (n := j) (by omega), nI_clamp (n := q) (by omega), ← hres]; rcases res with _ | pp; exact absurd hRB c116; have hq1 := hRB.1; have hq2 := hRB.2.2; dsimp only; rw [i_le, i_0] at c123; rw [if_pos (by omega), hq1]⟩)
            · refine j_bipush (v := (-9)) (pc' := 121) C dX8_shortest_119 rfl (by decide +kernel) ?_
              exact j_iret C hr hk hA dX8_shortest_121 (rfl) (⟨_, _, _, _, rfl, by rw [i_le, i_m1] at c22; unfold stQ; rw [if_neg (by rw [decide_eq_true c22]; simp_all), nI_clamp (n := j) (by omega), nI_clamp (n := q) (by omega), ← hres]; rcases res with _ | pp; rfl; exact absurd hRB (fun q9 => by have := q9.1; have := q9.2.1; omega)⟩)
          · obtain ⟨hx2, hx3, hx4⟩ : 2 ≤ d1_4 ∧ wh1_4 (d1_4 - 1) = t (39 + j) ∧ rmL t s (t (39 + j)) w2 p2 d2 = preL sp1_4 (d1_4 - 1) :: remL t s (t (39 + j)) wh1_4 sp1_4 (d1_4 - 1) := by
              rcases hF45.2 with ⟨q9, _⟩ | ⟨_, q9⟩
              · rw [c48] at q9; cases q9
              · exact q9
            have hV3 := hF45.1
            have hd7 := hV3.1
            have hpp : ∀ i, i < d1_4 - 1 → 1 ≤ sp1_4 i ∧ sp1_4 i ≤ t 1 := fun i hi => ⟨(hV3.2.1 i (by omega)).2.2 (by omega), (hV3.2.1 i (by omega)).2.1⟩
            rw [hx4, List.foldl_cons] at hres
            have hpl : (preL sp1_4 (d1_4 - 1)).length = d1_4 - 1 := preL_len _ _
            refine j_aload_n (pc' := 52) C dX8_shortest_51 rfl 0 rfl ?_
            refine j_get (v := .int (mI d1_4)) (pc' := 55) C KX8 0 21 rfl (by decide) fl_X8_160 rfl rfl dX8_shortest_52 rfl ?_
            refine j_top (nI (d1_4 - 1)) (mI_n (by omega)) ?_
            refine j_iload (pc' := 57) C dX8_shortest_55 rfl 4 rfl ?_
            refine j_nc_ge (pc' := 60) C 35 dX8_shortest_57 (by decide) rfl (by omega) (by omega) (fun c57 => ?_) (fun c57 => ?_)
            · refine j_lsub [(0, .ref a0), (1, .int (nI j)), (2, .int (nI q)), (3, .int k), (4, .int (nI le))] [0, 1, 2, 3, 4] rfl ?_
              exact ih35 d1_4 wh1_4 sp1_4 le be2 (⟨hV3, by omega, hle, res, by rw [RB_no hRB (Or.inl (by omega)) (by omega)] at hres; rw [rmL_g hx3]; exact hres, hRB⟩) (by rw [rmL_g hx3, hx4, List.length_cons]; omega)
            · refine j_aload_n (pc' := 61) C dX8_shortest_60 rfl 0 rfl ?_
              refine j_cVi (As := []) (wr := [(aW, .inl (cyI, 8, .inl (nA wh1_4))), (aB, .inl (cyI, 8, .inl (nA be2)))]) (pc' := 64) C (c_X8_shutIn (a0 := a0) (th := (nI 0)) (aX := aX) (ty := ty) (sp := sp) (tk := tk) (pl := pl) (va := va) (fa := fa) (aT := aT) (aD := aD) (aS := aS) (aU := aU) (um := um) (aK := aK) (aI := aI) (aL := aL) (aE := aE) (aF := aF) (sm := sm) (aP := aP) (aW := aW) (aB := aB) (aM := aM) (t := t) (s := s) (stp := sp1_4) (d := d1_4) (hT := by first | assumption | omega) (hS := by first | assumption | omega) (hd := by omega) (hd8 := by omega) (hp := hpp)) Y_X8_shutIn (ml_X8_175) [0, 1, 2, 3] [4, 5] rfl rfl rfl rfl (by decide) rfl rfl rfl dX8_shortest_61 rfl rfl rfl (Nat.le_of_ble_eq_true rfl) ⟨Nat.le_of_ble_eq_true rfl, Nat.le_of_ble_eq_true rfl⟩ ⟨Nat.le_of_ble_eq_true rfl, Nat.le_of_ble_eq_true rfl⟩ ⟨rfl, rfl⟩ (fun r5 w1 hQ => ?_)
              obtain ⟨rfl, rfl⟩ := hQ
              refine j_perm [(a0, .inr (8, [.int (nI 0), .ref aX, .int ty, .int sp, .int tk, .int pl, .int va, .int fa, .ref aT, .ref aD, .ref aS, .ref aU, .int um, .ref aK, .ref aI, .ref aL, .ref aE, .ref aF, .int sm, .ref aP, .ref aW, .int (mI d1_4), .ref aB, .ref aM])), (aT, .inl (cyI, 42, .inl (nA t))), (aS, .inl (cyI, 30, .inl (nA s))), (aP, .inl (cyI, 8, .inl (sA sp1_4))), (aW, .inl (cyI, 8, .inl (nA wh1_4))), (aB, .inl (cyI, 8, .inl (nA be2)))] [2, 3, 4, 5, 0, 1] rfl rfl (by decide) ?_
              refine j_iload_n (pc' := 65) C dX8_shortest_64 rfl 2 rfl ?_
              refine j_cSi (As := [.int (nI (shP t s (preL sp1_4 (d1_4 - 1)))), .int (nI q)]) (wr := [(a0, .inr (8, [.int (nI 0), .ref aX, .int ty, .int sp, .int tk, .int pl, .int va, .int fa, .ref aT, .ref aD, .ref aS, .ref aU, .int um, .ref aK, .ref aI, .ref aL, .ref aE, .ref aF, .int sm, .ref aP, .ref aW, .int (mI d1_4), .ref aB, .ref aM])), (aT, .inl (cyI, 42, .inl (nA t))), (aS, .inl (cyI, 30, .inl (nA s))), (aP, .inl (cyI, 8, .inl (sA sp1_4))), (aW, .inl (cyI, 8, .inl (nA wh1_4))), (aB, .inl (cyI, 8, .inl (nA be2)))]) (pc' := 68) C (c_X8_has (a := shP t s (preL sp1_4 (d1_4 - 1))) (k := q) (ha := Nat.lt_trans (bsN_lt _ 16) (by decide)) (hk9 := by first | assumption | omega)) Y_X8_has (ml_X8_130) [] [0, 1, 2, 3, 4, 5] rfl rfl rfl rfl (by decide) dX8_shortest_65 rfl rfl rfl (Nat.le_of_ble_eq_true rfl) ⟨Nat.le_of_ble_eq_true rfl, Nat.le_of_ble_eq_true rfl⟩ ⟨Nat.le_of_ble_eq_true rfl, Nat.le_of_ble_eq_true rfl⟩ ⟨rfl, rfl⟩ (fun r6 w1 hQ => ?_)
              obtain ⟨rfl, rfl⟩ := hQ
              refine j_perm [(a0, .inr (8, [.int (nI 0), .ref aX, .int ty, .int sp, .int tk, .int pl, .int va, .int fa, .ref aT, .ref aD, .ref aS, .ref aU, .int um, .ref aK, .ref aI, .ref aL, .ref aE, .ref aF, .int sm, .ref aP, .ref aW, .int (mI d1_4), .ref aB, .ref aM])), (aT, .inl (cyI, 42, .inl (nA t))), (aS, .inl (cyI, 30, .inl (nA s))), (aP, .inl (cyI, 8, .inl (sA sp1_4))), (aW, .inl (cyI, 8, .inl (nA wh1_4))), (aB, .inl (cyI, 8, .inl (nA be2)))] [0, 1, 2, 3, 4, 5] rfl rfl (by decide) ?_
              refine j_b_eq (pc' := 71) C 35 dX8_shortest_68 (by decide) rfl (fun c68 => ?_) (fun c68 => ?_)
              · refine j_lsub [(0, .ref a0), (1, .int (nI j)), (2, .int (nI q)), (3, .int k), (4, .int (nI le))] [0, 1, 2, 3, 4] rfl ?_
                exact ih35 d1_4 wh1_4 sp1_4 le be2 (⟨hV3, by omega, hle, res, by rw [RB_no hRB (Or.inr c68) (by omega)] at hres; rw [rmL_g hx3]; exact hres, hRB⟩) (by rw [rmL_g hx3, hx4, List.length_cons]; omega)
              · refine j_aload_n (pc' := 72) C dX8_shortest_71 rfl 0 rfl ?_
                refine j_get (v := .int (mI d1_4)) (pc' := 75) C KX8 0 21 rfl (by decide) fl_X8_160 rfl rfl dX8_shortest_72 rfl ?_
                refine j_top (nI (d1_4 - 1)) (mI_n (by omega)) ?_
                refine j_istore (pc' := 77) C [(4, .int (nI (d1_4 - 1))), (0, .ref a0), (1, .int (nI j)), (2, .int (nI q)), (3, .int k)] dX8_shortest_75 rfl (by decide) rfl ?_
                refine j_iconst (v := (nI 0)) (pc' := 78) C dX8_shortest_77 rfl (by decide +kernel) ?_
                refine j_istore (pc' := 80) C [(5, .int (nI 0)), (4, .int (nI (d1_4 - 1))), (0, .ref a0), (1, .int (nI j)), (2, .int (nI q)), (3, .int k)] dX8_shortest_78 rfl (by decide) rfl ?_
                refine j_lsub [(0, .ref a0), (1, .int (nI j)), (2, .int (nI q)), (3, .int k), (4, .int (nI (d1_4 - 1))), (5, .int (nI 0))] [2, 3, 4, 5, 1, 0] rfl ?_
                refine j_loop2 (fun (e : Nat) (be3 : Nat → Nat) => [(a0, .inr (8, [.int (nI 0), .ref aX, .int ty, .int sp, .int tk, .int pl, .int va, .int fa, .ref aT, .ref aD, .ref aS, .ref aU, .int um, .ref aK, .ref aI, .ref aL, .ref aE, .ref aF, .int sm, .ref aP, .ref aW, .int (mI d1_4), .ref aB, .ref aM])), (aT, .inl (cyI, 42, .inl (nA t))), (aS, .inl (cyI, 30, .inl (nA s))), (aP, .inl (cyI, 8, .inl (sA sp1_4))), (aW, .inl (cyI, 8, .inl (nA wh1_4))), (aB, .inl (cyI, 8, .inl (nA be3)))]) (fun (e : Nat) (be3 : Nat → Nat) => [(0, .ref a0), (1, .int (nI j)), (2, .int (nI q)), (3, .int k), (4, .int (nI (d1_4 - 1))), (5, .int (nI e))]) (fun (e : Nat) (be3 : Nat → Nat) => []) (fun (e : Nat) (be3 : Nat → Nat) => e ≤ d1_4 - 1 ∧ be3 = flN be2 (fun i => sp1_4 i - 1) 0 e) (fun (e : Nat) (be3 : Nat → Nat) => 99 - e) ?_ 0 be2 ?_
                · intro e be3 hI80 ih80
                  obtain ⟨he, hb2⟩ := hI80
                  refine j_iload (pc' := 82) C dX8_shortest_80 rfl 5 rfl ?_
                  refine j_aload_n (pc' := 83) C dX8_shortest_82 rfl 0 rfl ?_
                  refine j_get (v := .int (mI d1_4)) (pc' := 86) C KX8 0 21 rfl (by decide) fl_X8_160 rfl rfl dX8_shortest_83 rfl ?_
                  refine j_top (nI (d1_4 - 1)) (mI_n (by omega)) ?_
                  refine j_nc_ge (pc' := 89) C 109 dX8_shortest_86 (by decide) rfl (by omega) (by omega) (fun c86 => ?_) (fun c86 => ?_)
                  · refine j_goto C 35 dX8_shortest_109 (by decide) ?_
                    refine j_lsub [(0, .ref a0), (1, .int (nI j)), (2, .int (nI q)), (3, .int k), (4, .int (nI (d1_4 - 1)))] [0, 1, 2, 3, 4] rfl ?_
                    exact ih35 d1_4 wh1_4 sp1_4 (d1_4 - 1) be3 (⟨hV3, by omega, by omega, some _, by rw [RB_yes hRB (by omega) c68] at hres; rw [rmL_g hx3]; exact hres, ⟨hpl.symm, by omega, fun i hi => by rw [preL_get (by omega), hb2, flN_i (Nat.zero_le _) (by omega)]; rfl⟩⟩) (by rw [rmL_g hx3, hx4, List.length_cons]; omega)
                  · have h3 := hpp e c86
                    refine j_aload_n (pc' := 90) C dX8_shortest_89 rfl 0 rfl ?_
                    refine j_get (v := .ref aB) (pc' := 93) C KX8 0 22 rfl (by decide) fl_X8_47 rfl rfl dX8_shortest_90 rfl ?_
                    refine j_iload (pc' := 95) C dX8_shortest_93 rfl 5 rfl ?_
                    refine j_aload_n (pc' := 96) C dX8_shortest_95 rfl 0 rfl ?_
                    refine j_get (v := .ref aP) (pc' := 99) C KX8 0 19 rfl (by decide) fl_X8_41 rfl rfl dX8_shortest_96 rfl ?_
                    refine j_iload (pc' := 101) C dX8_shortest_99 rfl 5 rfl ?_
                    refine j_sald (pc' := 102) C 3 rfl (by omega) (by decide) dX8_shortest_101 rfl ?_
                    refine j_top (nI (sp1_4 e - 1)) (mI_n (by omega)) ?_
                    refine j_nast (pc' := 103) C [(a0, .inr (8, [.int (nI 0), .ref aX, .int ty, .int sp, .int tk, .int pl, .int va, .int fa, .ref aT, .ref aD, .ref aS, .ref aU, .int um, .ref aK, .ref aI, .ref aL, .ref aE, .ref aF, .int sm, .ref aP, .ref aW, .int (mI d1_4), .ref aB, .ref aM])), (aT, .inl (cyI, 42, .inl (nA t))), (aS, .inl (cyI, 30, .inl (nA s))), (aP, .inl (cyI, 8, .inl (sA sp1_4))), (aW, .inl (cyI, 8, .inl (nA wh1_4))), (aB, .inl (cyI, 8, .inl (nA (uN be3 e (sp1_4 e - 1)))))] 5 rfl (by omega) (by decide) dX8_shortest_102 rfl rfl ?_
                    refine j_iinc (v := (nI (e + 1))) (pc' := 106) C [(5, .int (nI (e + 1))), (0, .ref a0), (1, .int (nI j)), (2, .int (nI q)), (3, .int k), (4, .int (nI (d1_4 - 1)))] dX8_shortest_103 rfl 5 rfl (inc_n e 1) (by decide) rfl ?_
                    refine j_goto C 80 dX8_shortest_106 (by decide) ?_
                    refine j_lsub [(0, .ref a0), (1, .int (nI j)), (2, .int (nI q)), (3, .int k), (4, .int (nI (d1_4 - 1))), (5, .int (nI (e + 1)))] [1, 2, 3, 4, 5, 0] rfl ?_
                    exact ih80 (e + 1) (uN be3 e (sp1_4 e - 1)) (⟨by omega, by rw [hb2, ← flN_s]; simp only [Nat.zero_add]⟩) (by omega)
                · exact ⟨Nat.zero_le _, (flN_0 _ _ _).symm⟩
        · exact ⟨VP_0 hT _ _, Nat.le_refl _, Nat.le_refl _, none, by rw [rmL_0 _ _ h2.1]; rfl, rfl⟩
      · refine j_iconst (v := (-1)) (pc' := 26) C dX8_shortest_25 rfl (by decide +kernel) ?_
        exact j_iret C hr hk hA dX8_shortest_26 (rfl) (⟨_, _, _, _, rfl, by unfold stQ; rw [if_pos ?_]; first | (simp_all; done) | (rw [i_le, i_m1] at c22; rw [decide_eq_false (by omega)]; simp)⟩)
