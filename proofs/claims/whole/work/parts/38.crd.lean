theorem n_m1 {v : Nat} (h : v < 2147483648) : ¬ nI v = -1 := by
  intro q
  have h2 := nI_pos h
  rw [q] at h2
  exact h2 (by decide +kernel)

set_option maxHeartbeats 4000000 in
set_option maxRecDepth 100000 in
theorem c_X2_append {lch : Launch} {dG : va_G} {cyI cyZ cyO : ClassId} (aR : Nat) (aD : Nat) (aX : Nat) (ra : Int32) (rt : Int32) (rp : Int32) (x : Nat → Nat) (n : Nat) (v : Nat) (hn : n ≤ 100) : Ki lch yX2_append cX2_append 2 .boolean (rmk 1) dG (cyI, cyZ, cyO) [.ref aR, .int (nI v)] [(aR, .inr (2, [.ref aD, .int (nI n), .ref aX, .int ra, .int rt, .int rp])), (aX, .inl (cyI, 100, .inl (nA x)))] (fun r w1 => ∃ (x1 : Nat → Nat), ∃ (n1 : Nat), ∃ (b : Bool), w1 = [(aR, .inr (2, [.ref aD, .int (nI n1), .ref aX, .int ra, .int rt, .int rp])), (aX, .inl (cyI, 100, .inl (nA x1)))] ∧ r = (bI b) ∧ ((b = false ∧ n = 100 ∧ x1 = x ∧ n1 = n) ∨ (b = true ∧ n < 100 ∧ x1 = uN x n v ∧ n1 = n + 1))) := by
  refine Ki.of (own := RX2) rfl (by decide) (Nat.le_of_ble_eq_true rfl) (fun p0 e0 s0 m0 ar0 be0 me0 cd0 A0 C hr hk hnm hA => ?_)
  refine j_lsub [(0, .ref aR), (1, .int (nI v))] [0, 1] rfl ?_
  refine j_aload_n (pc' := 1) C dX2_append_0 rfl 0 rfl ?_
  refine j_get (v := .int (nI n)) (pc' := 4) C KX2 0 1 rfl (by decide) fl_X2_22 rfl rfl dX2_append_1 rfl ?_
  refine j_bipush (v := (nI 100)) (pc' := 6) C dX2_append_4 rfl (by decide +kernel) ?_
  refine j_nc_lt (pc' := 9) C 11 dX2_append_6 (by decide) rfl (by omega) (by omega) (fun c6 => ?_) (fun c6 => ?_)
  · refine j_aload_n (pc' := 12) C dX2_append_11 rfl 0 rfl ?_
    refine j_get (v := .ref aX) (pc' := 15) C KX2 0 2 rfl (by decide) fl_X2_18 rfl rfl dX2_append_12 rfl ?_
    refine j_aload_n (pc' := 16) C dX2_append_15 rfl 0 rfl ?_
    refine j_get (v := .int (nI n)) (pc' := 19) C KX2 0 1 rfl (by decide) fl_X2_22 rfl rfl dX2_append_16 rfl ?_
    refine j_iload_n (pc' := 20) C dX2_append_19 rfl 1 rfl ?_
    refine j_nast (pc' := 21) C [(aR, .inr (2, [.ref aD, .int (nI n), .ref aX, .int ra, .int rt, .int rp])), (aX, .inl (cyI, 100, .inl (nA (uN x n v))))] 1 rfl (by omega) (by decide) dX2_append_20 rfl rfl ?_
    refine j_aload_n (pc' := 22) C dX2_append_21 rfl 0 rfl ?_
    refine j_dup (pc' := 23) C dX2_append_22 rfl rfl ?_
    refine j_get (v := .int (nI n)) (pc' := 26) C KX2 0 1 rfl (by decide) fl_X2_22 rfl rfl dX2_append_23 rfl ?_
    refine j_iconst (v := (nI 1)) (pc' := 27) C dX2_append_26 rfl (by decide +kernel) ?_
    refine j_iadd (v := (nI (n + 1))) (pc' := 28) C dX2_append_27 rfl (nI_add n 1) ?_
    refine j_put (pc' := 31) C [(aR, .inr (2, [.ref aD, .int (nI (n + 1)), .ref aX, .int ra, .int rt, .int rp])), (aX, .inl (cyI, 100, .inl (nA (uN x n v))))] KX2 0 1 rfl (by decide) fl_X2_22 rfl rfl rfl rfl (Nat.le_of_ble_eq_true rfl) dX2_append_28 rfl rfl ?_
    refine j_iconst (v := (nI 1)) (pc' := 32) C dX2_append_31 rfl (by decide +kernel) ?_
    refine j_top (bI true) (by decide +kernel) ?_
    exact j_iret C hr hk hA dX2_append_32 (nrw_bI _) (⟨_, _, _, rfl, rfl, Or.inr ⟨rfl, by omega, rfl, rfl⟩⟩)
  · refine j_iconst (v := (nI 0)) (pc' := 10) C dX2_append_9 rfl (by decide +kernel) ?_
    refine j_top (bI false) (by decide +kernel) ?_
    exact j_iret C hr hk hA dX2_append_10 (nrw_bI _) (⟨_, _, _, rfl, rfl, Or.inl ⟨rfl, by omega, rfl, rfl⟩⟩)

set_option maxHeartbeats 4000000 in
set_option maxRecDepth 100000 in
theorem c_X2_letterAt {lch : Launch} {dG : va_G} {cyI cyZ cyO : ClassId} (aR : Nat) (aD : Nat) (aX : Nat) (ra : Int32) (rt : Int32) (rp : Int32) (x : Nat → Nat) (n : Nat) (k : Nat) (hn : n ≤ 100) (hx : ∀ i, i < n → x i < 256) (hk2 : k ≤ 200) : Ki lch yX2_letterAt cX2_letterAt 2 .int (rmk 1) dG (cyI, cyZ, cyO) [.ref aR, .int (nI k)] [(aR, .inr (2, [.ref aD, .int (nI n), .ref aX, .int ra, .int rt, .int rp])), (aX, .inl (cyI, 100, .inl (nA x)))] (fun r w1 => w1 = [(aR, .inr (2, [.ref aD, .int (nI n), .ref aX, .int ra, .int rt, .int rp])), (aX, .inl (cyI, 100, .inl (nA x)))] ∧ ((k < n ∧ r = nI (x k)) ∨ (n ≤ k ∧ r = -1))) := by
  refine Ki.of (own := RX2) rfl (by decide) (Nat.le_of_ble_eq_true rfl) (fun p0 e0 s0 m0 ar0 be0 me0 cd0 A0 C hr hk hnm hA => ?_)
  refine j_lsub [(0, .ref aR), (1, .int (nI k))] [0, 1] rfl ?_
  refine j_iload_n (pc' := 1) C dX2_letterAt_0 rfl 1 rfl ?_
  refine j_if_lt (pc' := 4) C 27 dX2_letterAt_1 (by decide) rfl (fun c1 => ?_) (fun c1 => ?_)
  · exact absurd c1 (nI_pos (by omega))
  · refine j_iload_n (pc' := 5) C dX2_letterAt_4 rfl 1 rfl ?_
    refine j_aload_n (pc' := 6) C dX2_letterAt_5 rfl 0 rfl ?_
    refine j_get (v := .int (nI n)) (pc' := 9) C KX2 0 1 rfl (by decide) fl_X2_22 rfl rfl dX2_letterAt_6 rfl ?_
    refine j_nc_ge (pc' := 12) C 27 dX2_letterAt_9 (by decide) rfl (by omega) (by omega) (fun c9 => ?_) (fun c9 => ?_)
    · refine j_iconst (v := (-1)) (pc' := 28) C dX2_letterAt_27 rfl (by decide +kernel) ?_
      exact j_iret C hr hk hA dX2_letterAt_28 (rfl) (⟨rfl, Or.inr ⟨by omega, rfl⟩⟩)
    · refine j_iload_n (pc' := 13) C dX2_letterAt_12 rfl 1 rfl ?_
      refine j_bipush (v := (nI 100)) (pc' := 15) C dX2_letterAt_13 rfl (by decide +kernel) ?_
      refine j_nc_ge (pc' := 18) C 27 dX2_letterAt_15 (by decide) rfl (by omega) (by omega) (fun c15 => ?_) (fun c15 => ?_)
      · exact absurd c15 (by omega)
      · refine j_aload_n (pc' := 19) C dX2_letterAt_18 rfl 0 rfl ?_
        refine j_get (v := .ref aX) (pc' := 22) C KX2 0 2 rfl (by decide) fl_X2_18 rfl rfl dX2_letterAt_19 rfl ?_
        refine j_iload_n (pc' := 23) C dX2_letterAt_22 rfl 1 rfl ?_
        refine j_nald (pc' := 24) C 1 rfl (by omega) (by decide) dX2_letterAt_23 rfl ?_
        refine j_goto C 28 dX2_letterAt_24 (by decide) ?_
        exact j_iret C hr hk hA dX2_letterAt_28 (rfl) (⟨rfl, Or.inl ⟨by omega, rfl⟩⟩)

set_option maxHeartbeats 4000000 in
set_option maxRecDepth 100000 in
theorem c_X2_isDigitN {lch : Launch} {dG : va_G} {cyI cyZ cyO : ClassId} (v : Nat) (hv : v < 2147483648) : Ki lch yX2_isDigit cX2_isDigit 1 .boolean (rmk 1) dG (cyI, cyZ, cyO) [.int (nI v)] [] (fun r w1 => w1 = [] ∧ r = (bI (isD v))) := by
  refine Ki.of (own := RX2) rfl (by decide) (Nat.le_of_ble_eq_true rfl) (fun p0 e0 s0 m0 ar0 be0 me0 cd0 A0 C hr hk hnm hA => ?_)
  refine j_lsub [(0, .int (nI v))] [0] rfl ?_
  refine j_iload_n (pc' := 1) C dX2_isDigit_0 rfl 0 rfl ?_
  refine j_bipush (v := (nI 48)) (pc' := 3) C dX2_isDigit_1 rfl (by decide +kernel) ?_
  refine j_nc_lt (pc' := 6) C 16 dX2_isDigit_3 (by decide) rfl (by omega) (by omega) (fun c3 => ?_) (fun c3 => ?_)
  · refine j_iconst (v := (nI 0)) (pc' := 17) C dX2_isDigit_16 rfl (by decide +kernel) ?_
    refine j_top (bI false) (by decide +kernel) ?_
    exact j_iret C hr hk hA dX2_isDigit_17 (nrw_bI _) (⟨rfl, by unfold isD; rw [decide_eq_false (by omega)]⟩)
  · refine j_iload_n (pc' := 7) C dX2_isDigit_6 rfl 0 rfl ?_
    refine j_bipush (v := (nI 57)) (pc' := 9) C dX2_isDigit_7 rfl (by decide +kernel) ?_
    refine j_nc_gt (pc' := 12) C 16 dX2_isDigit_9 (by decide) rfl (by omega) (by omega) (fun c9 => ?_) (fun c9 => ?_)
    · refine j_iconst (v := (nI 0)) (pc' := 17) C dX2_isDigit_16 rfl (by decide +kernel) ?_
      refine j_top (bI false) (by decide +kernel) ?_
      exact j_iret C hr hk hA dX2_isDigit_17 (nrw_bI _) (⟨rfl, by unfold isD; rw [decide_eq_false (by omega)]⟩)
    · refine j_iconst (v := (nI 1)) (pc' := 13) C dX2_isDigit_12 rfl (by decide +kernel) ?_
      refine j_goto C 17 dX2_isDigit_13 (by decide) ?_
      refine j_top (bI true) (by decide +kernel) ?_
      exact j_iret C hr hk hA dX2_isDigit_17 (nrw_bI _) (⟨rfl, by unfold isD; rw [decide_eq_true (by omega)]⟩)

set_option maxHeartbeats 4000000 in
set_option maxRecDepth 100000 in
theorem c_X2_isDigit {lch : Launch} {dG : va_G} {cyI cyZ cyO : ClassId} (v : Int32)  : Ki lch yX2_isDigit cX2_isDigit 1 .boolean (rmk 1) dG (cyI, cyZ, cyO) [.int v] [] (fun r w1 => w1 = [] ∧ r = (bI (decide (48 ≤ v.toInt ∧ v.toInt ≤ 57)))) := by
  refine Ki.of (own := RX2) rfl (by decide) (Nat.le_of_ble_eq_true rfl) (fun p0 e0 s0 m0 ar0 be0 me0 cd0 A0 C hr hk hnm hA => ?_)
  refine j_lsub [(0, .int v)] [0] rfl ?_
  refine j_iload_n (pc' := 1) C dX2_isDigit_0 rfl 0 rfl ?_
  refine j_bipush (v := (nI 48)) (pc' := 3) C dX2_isDigit_1 rfl (by decide +kernel) ?_
  refine j_ic_lt (pc' := 6) C 16 dX2_isDigit_3 (by decide) rfl (fun c3 => ?_) (fun c3 => ?_)
  · refine j_iconst (v := (nI 0)) (pc' := 17) C dX2_isDigit_16 rfl (by decide +kernel) ?_
    refine j_top (bI false) (by decide +kernel) ?_
    exact j_iret C hr hk hA dX2_isDigit_17 (nrw_bI _) (⟨rfl, bI_f (by simp only [i_lt, i_le, nI_toInt (n := 48) (by decide), nI_toInt (n := 57) (by decide)] at *; omega)⟩)
  · refine j_iload_n (pc' := 7) C dX2_isDigit_6 rfl 0 rfl ?_
    refine j_bipush (v := (nI 57)) (pc' := 9) C dX2_isDigit_7 rfl (by decide +kernel) ?_
    refine j_ic_gt (pc' := 12) C 16 dX2_isDigit_9 (by decide) rfl (fun c9 => ?_) (fun c9 => ?_)
    · refine j_iconst (v := (nI 0)) (pc' := 17) C dX2_isDigit_16 rfl (by decide +kernel) ?_
      refine j_top (bI false) (by decide +kernel) ?_
      exact j_iret C hr hk hA dX2_isDigit_17 (nrw_bI _) (⟨rfl, bI_f (by simp only [i_lt, i_le, nI_toInt (n := 48) (by decide), nI_toInt (n := 57) (by decide)] at *; omega)⟩)
    · refine j_iconst (v := (nI 1)) (pc' := 13) C dX2_isDigit_12 rfl (by decide +kernel) ?_
      refine j_goto C 17 dX2_isDigit_13 (by decide) ?_
      refine j_top (bI true) (by decide +kernel) ?_
      exact j_iret C hr hk hA dX2_isDigit_17 (nrw_bI _) (⟨rfl, bI_t (by simp only [i_lt, i_le, nI_toInt (n := 48) (by decide), nI_toInt (n := 57) (by decide)] at *; omega)⟩)

set_option maxHeartbeats 4000000 in
set_option maxRecDepth 100000 in
theorem c_X2_nextToken {lch : Launch} {dG : va_G} {cyI cyZ cyO : ClassId} (aR : Nat) (aD : Nat) (aX : Nat) (rt : Int32) (rp : Int32) (x : Nat → Nat) (n : Nat) (b0 : Nat) (hn : n ≤ 100) (hx : ∀ i, i < n → x i < 256) (hp : b0 ≤ n) : Kv lch yX2_nextToken cX2_nextToken 2 (rmk 2) dG (cyI, cyZ, cyO) [.ref aR] [(aR, .inr (2, [.ref aD, .int (nI n), .ref aX, .int (nI b0), .int rt, .int rp])), (aX, .inl (cyI, 100, .inl (nA x)))] (fun w1 => w1 = [(aR, .inr (2, [.ref aD, .int (nI n), .ref aX, .int (nI (tke x n b0)), .int (tki (tkv x n b0)), .int (nI (skp x n b0))])), (aX, .inl (cyI, 100, .inl (nA x)))]) := by
  refine Kv.of (own := RX2) rfl (by decide) (Nat.le_of_ble_eq_true rfl) (fun p0 e0 s0 m0 ar0 be0 me0 cd0 A0 C hr hk hnm hA => ?_)
  refine j_lsub [(0, .ref aR)] [0] rfl ?_
  refine j_iconst (v := (nI 0)) (pc' := 1) C dX2_nextToken_0 rfl (by decide +kernel) ?_
  refine j_istore_n (pc' := 2) C [(1, .int (nI 0)), (0, .ref aR)] dX2_nextToken_1 rfl (by decide) rfl ?_
  refine j_lsub [(0, .ref aR), (1, .int (nI 0))] [1, 0] rfl ?_
  refine j_loop2 (fun (i : Nat) (p : Nat) => [(aR, .inr (2, [.ref aD, .int (nI n), .ref aX, .int (nI p), .int rt, .int rp])), (aX, .inl (cyI, 100, .inl (nA x)))]) (fun (i : Nat) (p : Nat) => [(0, .ref aR), (1, .int (nI i))]) (fun (i : Nat) (p : Nat) => []) (fun (i : Nat) (p : Nat) => i ≤ p ∧ p ≤ n ∧ skp x n p = skp x n b0) (fun (i : Nat) (p : Nat) => 100 - i) ?_ 0 b0 ?_
  · intro i p hI2 ih2
    obtain ⟨hi, hp1, hp2⟩ := hI2
    refine j_iload_n (pc' := 3) C dX2_nextToken_2 rfl 1 rfl ?_
    refine j_bipush (v := (nI 100)) (pc' := 5) C dX2_nextToken_3 rfl (by decide +kernel) ?_
    refine j_nc_ge (pc' := 8) C 37 dX2_nextToken_5 (by decide) rfl (by omega) (by omega) (fun c5 => ?_) (fun c5 => ?_)
    · refine j_aload_n (pc' := 38) C dX2_nextToken_37 rfl 0 rfl ?_
      refine j_aload_n (pc' := 39) C dX2_nextToken_38 rfl 0 rfl ?_
      refine j_get (v := .int (nI p)) (pc' := 42) C KX2 0 3 rfl (by decide) fl_X2_29 rfl rfl dX2_nextToken_39 rfl ?_
      refine j_put (pc' := 45) C [(aR, .inr (2, [.ref aD, .int (nI n), .ref aX, .int (nI p), .int rt, .int (nI p)])), (aX, .inl (cyI, 100, .inl (nA x)))] KX2 0 5 rfl (by decide) fl_X2_42 rfl rfl rfl rfl (Nat.le_of_ble_eq_true rfl) dX2_nextToken_42 rfl rfl ?_
      refine j_aload_n (pc' := 46) C dX2_nextToken_45 rfl 0 rfl ?_
      refine j_aload_n (pc' := 47) C dX2_nextToken_46 rfl 0 rfl ?_
      refine j_aload_n (pc' := 48) C dX2_nextToken_47 rfl 0 rfl ?_
      refine j_get (v := .int (nI p)) (pc' := 51) C KX2 0 3 rfl (by decide) fl_X2_29 rfl rfl dX2_nextToken_48 rfl ?_
      refine j_cVi (As := [.int (nI p)]) (wr := []) (pc' := 54) C (c_X2_letterAt (aR := aR) (aD := aD) (aX := aX) (ra := (nI p)) (rt := rt) (rp := (nI p)) (x := x) (n := n) (k := p) (hn := by first | assumption | omega) (hx := by first | assumption | omega) (hk2 := by omega)) Y_X2_letterAt (ml_X2_86) [0, 1] [] rfl rfl rfl rfl (by decide) rfl rfl rfl dX2_nextToken_51 rfl rfl rfl (Nat.le_of_ble_eq_true rfl) ⟨Nat.le_of_ble_eq_true rfl, Nat.le_of_ble_eq_true rfl⟩ ⟨Nat.le_of_ble_eq_true rfl, Nat.le_of_ble_eq_true rfl⟩ ⟨rfl, rfl⟩ (fun r1 w1 hQ => ?_)
      obtain ⟨rfl, hF51⟩ := hQ
      rcases hF51 with ⟨hL2, rfl⟩ | ⟨hL2, rfl⟩
      · have hbL2 := hx _ hL2
        refine j_put (pc' := 57) C [(aR, .inr (2, [.ref aD, .int (nI n), .ref aX, .int (nI p), .int (nI (x p)), .int (nI p)])), (aX, .inl (cyI, 100, .inl (nA x)))] KX2 0 4 rfl (by decide) fl_X2_35 rfl rfl rfl rfl (Nat.le_of_ble_eq_true rfl) dX2_nextToken_54 rfl rfl ?_
        refine j_aload_n (pc' := 58) C dX2_nextToken_57 rfl 0 rfl ?_
        refine j_get (v := .int (nI (x p))) (pc' := 61) C KX2 0 4 rfl (by decide) fl_X2_35 rfl rfl dX2_nextToken_58 rfl ?_
        refine j_iconst (v := (-1)) (pc' := 62) C dX2_nextToken_61 rfl (by decide +kernel) ?_
        refine j_ic_ne (pc' := 65) C 66 dX2_nextToken_62 (by decide) rfl (fun c62 => ?_) (fun c62 => ?_)
        · refine j_aload_n (pc' := 67) C dX2_nextToken_66 rfl 0 rfl ?_
          refine j_dup (pc' := 68) C dX2_nextToken_67 rfl rfl ?_
          refine j_get (v := .int (nI p)) (pc' := 71) C KX2 0 3 rfl (by decide) fl_X2_29 rfl rfl dX2_nextToken_68 rfl ?_
          refine j_iconst (v := (nI 1)) (pc' := 72) C dX2_nextToken_71 rfl (by decide +kernel) ?_
          refine j_iadd (v := (nI (p + 1))) (pc' := 73) C dX2_nextToken_72 rfl (nI_add p 1) ?_
          refine j_put (pc' := 76) C [(aR, .inr (2, [.ref aD, .int (nI n), .ref aX, .int (nI (p + 1)), .int (nI (x p)), .int (nI p)])), (aX, .inl (cyI, 100, .inl (nA x)))] KX2 0 3 rfl (by decide) fl_X2_29 rfl rfl rfl rfl (Nat.le_of_ble_eq_true rfl) dX2_nextToken_73 rfl rfl ?_
          refine j_aload_n (pc' := 77) C dX2_nextToken_76 rfl 0 rfl ?_
          refine j_get (v := .int (nI (x p))) (pc' := 80) C KX2 0 4 rfl (by decide) fl_X2_35 rfl rfl dX2_nextToken_77 rfl ?_
          refine j_cSi (As := [.int (nI (x p))]) (wr := [(aR, .inr (2, [.ref aD, .int (nI n), .ref aX, .int (nI (p + 1)), .int (nI (x p)), .int (nI p)])), (aX, .inl (cyI, 100, .inl (nA x)))]) (pc' := 83) C (c_X2_isDigitN (v := x p) (hv := by first | assumption | omega)) Y_X2_isDigit (ml_X2_83) [] [0, 1] rfl rfl rfl rfl (by decide) dX2_nextToken_80 rfl rfl rfl (Nat.le_of_ble_eq_true rfl) ⟨Nat.le_of_ble_eq_true rfl, Nat.le_of_ble_eq_true rfl⟩ ⟨Nat.le_of_ble_eq_true rfl, Nat.le_of_ble_eq_true rfl⟩ ⟨rfl, rfl⟩ (fun r3 w1 hQ => ?_)
          obtain ⟨rfl, rfl⟩ := hQ
          refine j_perm [(aR, .inr (2, [.ref aD, .int (nI n), .ref aX, .int (nI (p + 1)), .int (nI (x p)), .int (nI p)])), (aX, .inl (cyI, 100, .inl (nA x)))] [0, 1] rfl rfl (by decide) ?_
          refine j_b_ne (pc' := 86) C 87 dX2_nextToken_83 (by decide) rfl (fun c83 => ?_) (fun c83 => ?_)
          · refine j_iconst (v := (nI 0)) (pc' := 88) C dX2_nextToken_87 rfl (by decide +kernel) ?_
            refine j_istore_n (pc' := 89) C [(1, .int (nI 0)), (0, .ref aR)] dX2_nextToken_88 rfl (by decide) rfl ?_
            refine j_lsub [(0, .ref aR), (1, .int (nI 0))] [1, 0] rfl ?_
            refine j_loop3 (fun (i : Nat) (e : Nat) (tk2 : Int32) => [(aR, .inr (2, [.ref aD, .int (nI n), .ref aX, .int (nI e), .int tk2, .int (nI p)])), (aX, .inl (cyI, 100, .inl (nA x)))]) (fun (i : Nat) (e : Nat) (tk2 : Int32) => [(0, .ref aR), (1, .int (nI i))]) (fun (i : Nat) (e : Nat) (tk2 : Int32) => []) (fun (i : Nat) (e : Nat) (tk2 : Int32) => i < e ∧ p + 1 ≤ e ∧ e ≤ n ∧ dgp x n e = dgp x n (p + 1) ∧ ((e = p + 1 ∧ tk2 = nI (x p)) ∨ (p + 1 < e ∧ tk2 = -2))) (fun (i : Nat) (e : Nat) (tk2 : Int32) => 100 - i) ?_ 0 (p + 1) (nI (x p)) ?_
            · intro i e tk2 hI89 ih89
              obtain ⟨hi2, he0, he1, he2, htk⟩ := hI89
              refine j_iload_n (pc' := 90) C dX2_nextToken_89 rfl 1 rfl ?_
              refine j_bipush (v := (nI 100)) (pc' := 92) C dX2_nextToken_90 rfl (by decide +kernel) ?_
              refine j_nc_ge (pc' := 95) C 131 dX2_nextToken_92 (by decide) rfl (by omega) (by omega) (fun c92 => ?_) (fun c92 => ?_)
              · have hs : skp x n b0 = p := by rw [← hp2]; exact skp_e (by first | exact Or.inr c18 | exact Or.inl (by omega))
                have h91 := dgp_s (show p < n by omega) c83
                have hde : dgp x n p = e := by rw [h91, ← he2]; exact dgp_e (by first | exact Or.inl (by omega) | exact Or.inr c106)
                have he : tke x n b0 = e := by unfold tke; rw [hs, if_pos (by omega), if_pos c83, hde]
                have h63 := of_decide_eq_true c83
                have hv : tki (tkv x n b0) = tk2 := by
                  unfold tkv
                  rw [hs, if_pos (by omega), if_pos c83, hde]
                  rcases htk with ⟨q9, q8⟩ | ⟨q9, q8⟩
                  · rw [if_pos q9, q8, tki_n (by omega) (by omega)]
                  · rw [if_neg (by omega), q8]; rfl
                exact j_vret C hr hk hA dX2_nextToken_131 (by rw [hv, he, hs])
              · refine j_aload_n (pc' := 96) C dX2_nextToken_95 rfl 0 rfl ?_
                refine j_aload_n (pc' := 97) C dX2_nextToken_96 rfl 0 rfl ?_
                refine j_get (v := .int (nI e)) (pc' := 100) C KX2 0 3 rfl (by decide) fl_X2_29 rfl rfl dX2_nextToken_97 rfl ?_
                refine j_cVi (As := [.int (nI e)]) (wr := []) (pc' := 103) C (c_X2_letterAt (aR := aR) (aD := aD) (aX := aX) (ra := (nI e)) (rt := tk2) (rp := (nI p)) (x := x) (n := n) (k := e) (hn := by first | assumption | omega) (hx := by first | assumption | omega) (hk2 := by omega)) Y_X2_letterAt (ml_X2_86) [0, 1] [] rfl rfl rfl rfl (by decide) rfl rfl rfl dX2_nextToken_100 rfl rfl rfl (Nat.le_of_ble_eq_true rfl) ⟨Nat.le_of_ble_eq_true rfl, Nat.le_of_ble_eq_true rfl⟩ ⟨Nat.le_of_ble_eq_true rfl, Nat.le_of_ble_eq_true rfl⟩ ⟨rfl, rfl⟩ (fun r4 w1 hQ => ?_)
                obtain ⟨rfl, hF100⟩ := hQ
                rcases hF100 with ⟨hL5, rfl⟩ | ⟨hL5, rfl⟩
                · have hbL5 := hx _ hL5
                  refine j_cSi (As := [.int (nI (x e))]) (wr := [(aR, .inr (2, [.ref aD, .int (nI n), .ref aX, .int (nI e), .int tk2, .int (nI p)])), (aX, .inl (cyI, 100, .inl (nA x)))]) (pc' := 106) C (c_X2_isDigitN (v := x e) (hv := by first | assumption | omega)) Y_X2_isDigit (ml_X2_83) [] [0, 1] rfl rfl rfl rfl (by decide) dX2_nextToken_103 rfl rfl rfl (Nat.le_of_ble_eq_true rfl) ⟨Nat.le_of_ble_eq_true rfl, Nat.le_of_ble_eq_true rfl⟩ ⟨Nat.le_of_ble_eq_true rfl, Nat.le_of_ble_eq_true rfl⟩ ⟨rfl, rfl⟩ (fun r6 w1 hQ => ?_)
                  obtain ⟨rfl, rfl⟩ := hQ
                  refine j_perm [(aR, .inr (2, [.ref aD, .int (nI n), .ref aX, .int (nI e), .int tk2, .int (nI p)])), (aX, .inl (cyI, 100, .inl (nA x)))] [0, 1] rfl rfl (by decide) ?_
                  refine j_b_eq (pc' := 109) C 131 dX2_nextToken_106 (by decide) rfl (fun c106 => ?_) (fun c106 => ?_)
                  · have hs : skp x n b0 = p := by rw [← hp2]; exact skp_e (by first | exact Or.inr c18 | exact Or.inl (by omega))
                    have h91 := dgp_s (show p < n by omega) c83
                    have hde : dgp x n p = e := by rw [h91, ← he2]; exact dgp_e (by first | exact Or.inl (by omega) | exact Or.inr c106)
                    have he : tke x n b0 = e := by unfold tke; rw [hs, if_pos (by omega), if_pos c83, hde]
                    have h63 := of_decide_eq_true c83
                    have hv : tki (tkv x n b0) = tk2 := by
                      unfold tkv
                      rw [hs, if_pos (by omega), if_pos c83, hde]
                      rcases htk with ⟨q9, q8⟩ | ⟨q9, q8⟩
                      · rw [if_pos q9, q8, tki_n (by omega) (by omega)]
                      · rw [if_neg (by omega), q8]; rfl
                    exact j_vret C hr hk hA dX2_nextToken_131 (by rw [hv, he, hs])
                  · refine j_aload_n (pc' := 110) C dX2_nextToken_109 rfl 0 rfl ?_
                    refine j_dup (pc' := 111) C dX2_nextToken_110 rfl rfl ?_
                    refine j_get (v := .int (nI e)) (pc' := 114) C KX2 0 3 rfl (by decide) fl_X2_29 rfl rfl dX2_nextToken_111 rfl ?_
                    refine j_iconst (v := (nI 1)) (pc' := 115) C dX2_nextToken_114 rfl (by decide +kernel) ?_
                    refine j_iadd (v := (nI (e + 1))) (pc' := 116) C dX2_nextToken_115 rfl (nI_add e 1) ?_
                    refine j_put (pc' := 119) C [(aR, .inr (2, [.ref aD, .int (nI n), .ref aX, .int (nI (e + 1)), .int tk2, .int (nI p)])), (aX, .inl (cyI, 100, .inl (nA x)))] KX2 0 3 rfl (by decide) fl_X2_29 rfl rfl rfl rfl (Nat.le_of_ble_eq_true rfl) dX2_nextToken_116 rfl rfl ?_
                    refine j_aload_n (pc' := 120) C dX2_nextToken_119 rfl 0 rfl ?_
                    refine j_bipush (v := (-2)) (pc' := 122) C dX2_nextToken_120 rfl (by decide +kernel) ?_
                    refine j_put (pc' := 125) C [(aR, .inr (2, [.ref aD, .int (nI n), .ref aX, .int (nI (e + 1)), .int (-2), .int (nI p)])), (aX, .inl (cyI, 100, .inl (nA x)))] KX2 0 4 rfl (by decide) fl_X2_35 rfl rfl rfl rfl (Nat.le_of_ble_eq_true rfl) dX2_nextToken_122 rfl rfl ?_
                    refine j_iinc (v := (nI (i + 1))) (pc' := 128) C [(1, .int (nI (i + 1))), (0, .ref aR)] dX2_nextToken_125 rfl 1 rfl (inc_n i 1) (by decide) rfl ?_
                    refine j_goto C 89 dX2_nextToken_128 (by decide) ?_
                    refine j_lsub [(0, .ref aR), (1, .int (nI (i + 1)))] [1, 0] rfl ?_
                    exact ih89 (i + 1) (e + 1) (-2) (⟨by omega, by omega, by omega, by rw [← he2]; exact (dgp_s (by omega) c106).symm, Or.inr ⟨by omega, rfl⟩⟩) (by omega)
                · refine j_cSi (As := [.int (-1)]) (wr := [(aR, .inr (2, [.ref aD, .int (nI n), .ref aX, .int (nI e), .int tk2, .int (nI p)])), (aX, .inl (cyI, 100, .inl (nA x)))]) (pc' := 106) C (c_X2_isDigit (v := (-1)) ) Y_X2_isDigit (ml_X2_83) [] [0, 1] rfl rfl rfl rfl (by decide) dX2_nextToken_103 rfl rfl rfl (Nat.le_of_ble_eq_true rfl) ⟨Nat.le_of_ble_eq_true rfl, Nat.le_of_ble_eq_true rfl⟩ ⟨Nat.le_of_ble_eq_true rfl, Nat.le_of_ble_eq_true rfl⟩ ⟨rfl, rfl⟩ (fun r7 w1 hQ => ?_)
                  obtain ⟨rfl, rfl⟩ := hQ
                  refine j_perm [(aR, .inr (2, [.ref aD, .int (nI n), .ref aX, .int (nI e), .int tk2, .int (nI p)])), (aX, .inl (cyI, 100, .inl (nA x)))] [0, 1] rfl rfl (by decide) ?_
                  refine j_top (bI false) (by decide +kernel) ?_
                  refine j_b_eq (pc' := 109) C 131 dX2_nextToken_106 (by decide) rfl (fun c106 => ?_) (fun c106 => ?_)
                  · have hs : skp x n b0 = p := by rw [← hp2]; exact skp_e (by first | exact Or.inr c18 | exact Or.inl (by omega))
                    have h91 := dgp_s (show p < n by omega) c83
                    have hde : dgp x n p = e := by rw [h91, ← he2]; exact dgp_e (by first | exact Or.inl (by omega) | exact Or.inr c106)
                    have he : tke x n b0 = e := by unfold tke; rw [hs, if_pos (by omega), if_pos c83, hde]
                    have h63 := of_decide_eq_true c83
                    have hv : tki (tkv x n b0) = tk2 := by
                      unfold tkv
                      rw [hs, if_pos (by omega), if_pos c83, hde]
                      rcases htk with ⟨q9, q8⟩ | ⟨q9, q8⟩
                      · rw [if_pos q9, q8, tki_n (by omega) (by omega)]
                      · rw [if_neg (by omega), q8]; rfl
                    exact j_vret C hr hk hA dX2_nextToken_131 (by rw [hv, he, hs])
                  · exact absurd c106 (by decide)
            · exact ⟨by omega, by omega, by omega, rfl, Or.inl ⟨rfl, rfl⟩⟩
          · have hs : skp x n b0 = p := by rw [← hp2]; exact skp_e (by first | exact Or.inr c18 | exact Or.inl (by omega))
            have hv : tkv x n b0 = x p := by unfold tkv; rw [hs, if_pos (by omega), if_neg (by rw [c83]; decide)]
            have he : tke x n b0 = p + 1 := by unfold tke; rw [hs, if_pos (by omega), if_neg (by rw [c83]; decide)]
            exact j_vret C hr hk hA dX2_nextToken_86 (by rw [hv, he, hs, tki_n (by omega) (by omega)])
        · exact absurd c62 (fun q9 => q9 (n_m1 (by omega)))
      · refine j_put (pc' := 57) C [(aR, .inr (2, [.ref aD, .int (nI n), .ref aX, .int (nI p), .int (-1), .int (nI p)])), (aX, .inl (cyI, 100, .inl (nA x)))] KX2 0 4 rfl (by decide) fl_X2_35 rfl rfl rfl rfl (Nat.le_of_ble_eq_true rfl) dX2_nextToken_54 rfl rfl ?_
        refine j_aload_n (pc' := 58) C dX2_nextToken_57 rfl 0 rfl ?_
        refine j_get (v := .int (-1)) (pc' := 61) C KX2 0 4 rfl (by decide) fl_X2_35 rfl rfl dX2_nextToken_58 rfl ?_
        refine j_iconst (v := (-1)) (pc' := 62) C dX2_nextToken_61 rfl (by decide +kernel) ?_
        refine j_ic_ne (pc' := 65) C 66 dX2_nextToken_62 (by decide) rfl (fun c62 => ?_) (fun c62 => ?_)
        · exact absurd c62 (by decide +kernel)
        · have hs : skp x n b0 = p := by rw [← hp2]; exact skp_e (Or.inl (by omega))
          exact j_vret C hr hk hA dX2_nextToken_65 (by unfold tke tkv; rw [hs, if_neg (by omega), if_neg (by omega)]; rfl)
    · refine j_aload_n (pc' := 9) C dX2_nextToken_8 rfl 0 rfl ?_
      refine j_aload_n (pc' := 10) C dX2_nextToken_9 rfl 0 rfl ?_
      refine j_get (v := .int (nI p)) (pc' := 13) C KX2 0 3 rfl (by decide) fl_X2_29 rfl rfl dX2_nextToken_10 rfl ?_
      refine j_cVi (As := [.int (nI p)]) (wr := []) (pc' := 16) C (c_X2_letterAt (aR := aR) (aD := aD) (aX := aX) (ra := (nI p)) (rt := rt) (rp := rp) (x := x) (n := n) (k := p) (hn := by first | assumption | omega) (hx := by first | assumption | omega) (hk2 := by omega)) Y_X2_letterAt (ml_X2_86) [0, 1] [] rfl rfl rfl rfl (by decide) rfl rfl rfl dX2_nextToken_13 rfl rfl rfl (Nat.le_of_ble_eq_true rfl) ⟨Nat.le_of_ble_eq_true rfl, Nat.le_of_ble_eq_true rfl⟩ ⟨Nat.le_of_ble_eq_true rfl, Nat.le_of_ble_eq_true rfl⟩ ⟨rfl, rfl⟩ (fun r8 w1 hQ => ?_)
      obtain ⟨rfl, hF13⟩ := hQ
      rcases hF13 with ⟨hL9, rfl⟩ | ⟨hL9, rfl⟩
      · have hbL9 := hx _ hL9
        refine j_bipush (v := (nI 32)) (pc' := 18) C dX2_nextToken_16 rfl (by decide +kernel) ?_
        refine j_nc_ne (pc' := 21) C 37 dX2_nextToken_18 (by decide) rfl (by omega) (by omega) (fun c18 => ?_) (fun c18 => ?_)
        · refine j_aload_n (pc' := 38) C dX2_nextToken_37 rfl 0 rfl ?_
          refine j_aload_n (pc' := 39) C dX2_nextToken_38 rfl 0 rfl ?_
          refine j_get (v := .int (nI p)) (pc' := 42) C KX2 0 3 rfl (by decide) fl_X2_29 rfl rfl dX2_nextToken_39 rfl ?_
          refine j_put (pc' := 45) C [(aR, .inr (2, [.ref aD, .int (nI n), .ref aX, .int (nI p), .int rt, .int (nI p)])), (aX, .inl (cyI, 100, .inl (nA x)))] KX2 0 5 rfl (by decide) fl_X2_42 rfl rfl rfl rfl (Nat.le_of_ble_eq_true rfl) dX2_nextToken_42 rfl rfl ?_
          refine j_aload_n (pc' := 46) C dX2_nextToken_45 rfl 0 rfl ?_
          refine j_aload_n (pc' := 47) C dX2_nextToken_46 rfl 0 rfl ?_
          refine j_aload_n (pc' := 48) C dX2_nextToken_47 rfl 0 rfl ?_
          refine j_get (v := .int (nI p)) (pc' := 51) C KX2 0 3 rfl (by decide) fl_X2_29 rfl rfl dX2_nextToken_48 rfl ?_
          refine j_cVi (As := [.int (nI p)]) (wr := []) (pc' := 54) C (c_X2_letterAt (aR := aR) (aD := aD) (aX := aX) (ra := (nI p)) (rt := rt) (rp := (nI p)) (x := x) (n := n) (k := p) (hn := by first | assumption | omega) (hx := by first | assumption | omega) (hk2 := by omega)) Y_X2_letterAt (ml_X2_86) [0, 1] [] rfl rfl rfl rfl (by decide) rfl rfl rfl dX2_nextToken_51 rfl rfl rfl (Nat.le_of_ble_eq_true rfl) ⟨Nat.le_of_ble_eq_true rfl, Nat.le_of_ble_eq_true rfl⟩ ⟨Nat.le_of_ble_eq_true rfl, Nat.le_of_ble_eq_true rfl⟩ ⟨rfl, rfl⟩ (fun r10 w1 hQ => ?_)
          obtain ⟨rfl, hF51⟩ := hQ
          rcases hF51 with ⟨hL11, rfl⟩ | ⟨hL11, rfl⟩
          · have hbL11 := hx _ hL11
            refine j_put (pc' := 57) C [(aR, .inr (2, [.ref aD, .int (nI n), .ref aX, .int (nI p), .int (nI (x p)), .int (nI p)])), (aX, .inl (cyI, 100, .inl (nA x)))] KX2 0 4 rfl (by decide) fl_X2_35 rfl rfl rfl rfl (Nat.le_of_ble_eq_true rfl) dX2_nextToken_54 rfl rfl ?_
            refine j_aload_n (pc' := 58) C dX2_nextToken_57 rfl 0 rfl ?_
            refine j_get (v := .int (nI (x p))) (pc' := 61) C KX2 0 4 rfl (by decide) fl_X2_35 rfl rfl dX2_nextToken_58 rfl ?_
            refine j_iconst (v := (-1)) (pc' := 62) C dX2_nextToken_61 rfl (by decide +kernel) ?_
            refine j_ic_ne (pc' := 65) C 66 dX2_nextToken_62 (by decide) rfl (fun c62 => ?_) (fun c62 => ?_)
            · refine j_aload_n (pc' := 67) C dX2_nextToken_66 rfl 0 rfl ?_
              refine j_dup (pc' := 68) C dX2_nextToken_67 rfl rfl ?_
              refine j_get (v := .int (nI p)) (pc' := 71) C KX2 0 3 rfl (by decide) fl_X2_29 rfl rfl dX2_nextToken_68 rfl ?_
              refine j_iconst (v := (nI 1)) (pc' := 72) C dX2_nextToken_71 rfl (by decide +kernel) ?_
              refine j_iadd (v := (nI (p + 1))) (pc' := 73) C dX2_nextToken_72 rfl (nI_add p 1) ?_
              refine j_put (pc' := 76) C [(aR, .inr (2, [.ref aD, .int (nI n), .ref aX, .int (nI (p + 1)), .int (nI (x p)), .int (nI p)])), (aX, .inl (cyI, 100, .inl (nA x)))] KX2 0 3 rfl (by decide) fl_X2_29 rfl rfl rfl rfl (Nat.le_of_ble_eq_true rfl) dX2_nextToken_73 rfl rfl ?_
              refine j_aload_n (pc' := 77) C dX2_nextToken_76 rfl 0 rfl ?_
              refine j_get (v := .int (nI (x p))) (pc' := 80) C KX2 0 4 rfl (by decide) fl_X2_35 rfl rfl dX2_nextToken_77 rfl ?_
              refine j_cSi (As := [.int (nI (x p))]) (wr := [(aR, .inr (2, [.ref aD, .int (nI n), .ref aX, .int (nI (p + 1)), .int (nI (x p)), .int (nI p)])), (aX, .inl (cyI, 100, .inl (nA x)))]) (pc' := 83) C (c_X2_isDigitN (v := x p) (hv := by first | assumption | omega)) Y_X2_isDigit (ml_X2_83) [] [0, 1] rfl rfl rfl rfl (by decide) dX2_nextToken_80 rfl rfl rfl (Nat.le_of_ble_eq_true rfl) ⟨Nat.le_of_ble_eq_true rfl, Nat.le_of_ble_eq_true rfl⟩ ⟨Nat.le_of_ble_eq_true rfl, Nat.le_of_ble_eq_true rfl⟩ ⟨rfl, rfl⟩ (fun r12 w1 hQ => ?_)
              obtain ⟨rfl, rfl⟩ := hQ
              refine j_perm [(aR, .inr (2, [.ref aD, .int (nI n), .ref aX, .int (nI (p + 1)), .int (nI (x p)), .int (nI p)])), (aX, .inl (cyI, 100, .inl (nA x)))] [0, 1] rfl rfl (by decide) ?_
              refine j_b_ne (pc' := 86) C 87 dX2_nextToken_83 (by decide) rfl (fun c83 => ?_) (fun c83 => ?_)
              · refine j_iconst (v := (nI 0)) (pc' := 88) C dX2_nextToken_87 rfl (by decide +kernel) ?_
                refine j_istore_n (pc' := 89) C [(1, .int (nI 0)), (0, .ref aR)] dX2_nextToken_88 rfl (by decide) rfl ?_
                refine j_lsub [(0, .ref aR), (1, .int (nI 0))] [1, 0] rfl ?_
                refine j_loop3 (fun (i : Nat) (e : Nat) (tk2 : Int32) => [(aR, .inr (2, [.ref aD, .int (nI n), .ref aX, .int (nI e), .int tk2, .int (nI p)])), (aX, .inl (cyI, 100, .inl (nA x)))]) (fun (i : Nat) (e : Nat) (tk2 : Int32) => [(0, .ref aR), (1, .int (nI i))]) (fun (i : Nat) (e : Nat) (tk2 : Int32) => []) (fun (i : Nat) (e : Nat) (tk2 : Int32) => i < e ∧ p + 1 ≤ e ∧ e ≤ n ∧ dgp x n e = dgp x n (p + 1) ∧ ((e = p + 1 ∧ tk2 = nI (x p)) ∨ (p + 1 < e ∧ tk2 = -2))) (fun (i : Nat) (e : Nat) (tk2 : Int32) => 100 - i) ?_ 0 (p + 1) (nI (x p)) ?_
                · intro i e tk2 hI89 ih89
                  obtain ⟨hi2, he0, he1, he2, htk⟩ := hI89
                  refine j_iload_n (pc' := 90) C dX2_nextToken_89 rfl 1 rfl ?_
                  refine j_bipush (v := (nI 100)) (pc' := 92) C dX2_nextToken_90 rfl (by decide +kernel) ?_
                  refine j_nc_ge (pc' := 95) C 131 dX2_nextToken_92 (by decide) rfl (by omega) (by omega) (fun c92 => ?_) (fun c92 => ?_)
                  · have hs : skp x n b0 = p := by rw [← hp2]; exact skp_e (by first | exact Or.inr c18 | exact Or.inl (by omega))
                    have h91 := dgp_s (show p < n by omega) c83
                    have hde : dgp x n p = e := by rw [h91, ← he2]; exact dgp_e (by first | exact Or.inl (by omega) | exact Or.inr c106)
                    have he : tke x n b0 = e := by unfold tke; rw [hs, if_pos (by omega), if_pos c83, hde]
                    have h63 := of_decide_eq_true c83
                    have hv : tki (tkv x n b0) = tk2 := by
                      unfold tkv
                      rw [hs, if_pos (by omega), if_pos c83, hde]
                      rcases htk with ⟨q9, q8⟩ | ⟨q9, q8⟩
                      · rw [if_pos q9, q8, tki_n (by omega) (by omega)]
                      · rw [if_neg (by omega), q8]; rfl
                    exact j_vret C hr hk hA dX2_nextToken_131 (by rw [hv, he, hs])
                  · refine j_aload_n (pc' := 96) C dX2_nextToken_95 rfl 0 rfl ?_
                    refine j_aload_n (pc' := 97) C dX2_nextToken_96 rfl 0 rfl ?_
                    refine j_get (v := .int (nI e)) (pc' := 100) C KX2 0 3 rfl (by decide) fl_X2_29 rfl rfl dX2_nextToken_97 rfl ?_
                    refine j_cVi (As := [.int (nI e)]) (wr := []) (pc' := 103) C (c_X2_letterAt (aR := aR) (aD := aD) (aX := aX) (ra := (nI e)) (rt := tk2) (rp := (nI p)) (x := x) (n := n) (k := e) (hn := by first | assumption | omega) (hx := by first | assumption | omega) (hk2 := by omega)) Y_X2_letterAt (ml_X2_86) [0, 1] [] rfl rfl rfl rfl (by decide) rfl rfl rfl dX2_nextToken_100 rfl rfl rfl (Nat.le_of_ble_eq_true rfl) ⟨Nat.le_of_ble_eq_true rfl, Nat.le_of_ble_eq_true rfl⟩ ⟨Nat.le_of_ble_eq_true rfl, Nat.le_of_ble_eq_true rfl⟩ ⟨rfl, rfl⟩ (fun r13 w1 hQ => ?_)
                    obtain ⟨rfl, hF100⟩ := hQ
                    rcases hF100 with ⟨hL14, rfl⟩ | ⟨hL14, rfl⟩
                    · have hbL14 := hx _ hL14
                      refine j_cSi (As := [.int (nI (x e))]) (wr := [(aR, .inr (2, [.ref aD, .int (nI n), .ref aX, .int (nI e), .int tk2, .int (nI p)])), (aX, .inl (cyI, 100, .inl (nA x)))]) (pc' := 106) C (c_X2_isDigitN (v := x e) (hv := by first | assumption | omega)) Y_X2_isDigit (ml_X2_83) [] [0, 1] rfl rfl rfl rfl (by decide) dX2_nextToken_103 rfl rfl rfl (Nat.le_of_ble_eq_true rfl) ⟨Nat.le_of_ble_eq_true rfl, Nat.le_of_ble_eq_true rfl⟩ ⟨Nat.le_of_ble_eq_true rfl, Nat.le_of_ble_eq_true rfl⟩ ⟨rfl, rfl⟩ (fun r15 w1 hQ => ?_)
                      obtain ⟨rfl, rfl⟩ := hQ
                      refine j_perm [(aR, .inr (2, [.ref aD, .int (nI n), .ref aX, .int (nI e), .int tk2, .int (nI p)])), (aX, .inl (cyI, 100, .inl (nA x)))] [0, 1] rfl rfl (by decide) ?_
                      refine j_b_eq (pc' := 109) C 131 dX2_nextToken_106 (by decide) rfl (fun c106 => ?_) (fun c106 => ?_)
                      · have hs : skp x n b0 = p := by rw [← hp2]; exact skp_e (by first | exact Or.inr c18 | exact Or.inl (by omega))
                        have h91 := dgp_s (show p < n by omega) c83
                        have hde : dgp x n p = e := by rw [h91, ← he2]; exact dgp_e (by first | exact Or.inl (by omega) | exact Or.inr c106)
                        have he : tke x n b0 = e := by unfold tke; rw [hs, if_pos (by omega), if_pos c83, hde]
                        have h63 := of_decide_eq_true c83
                        have hv : tki (tkv x n b0) = tk2 := by
                          unfold tkv
                          rw [hs, if_pos (by omega), if_pos c83, hde]
                          rcases htk with ⟨q9, q8⟩ | ⟨q9, q8⟩
                          · rw [if_pos q9, q8, tki_n (by omega) (by omega)]
                          · rw [if_neg (by omega), q8]; rfl
                        exact j_vret C hr hk hA dX2_nextToken_131 (by rw [hv, he, hs])
                      · refine j_aload_n (pc' := 110) C dX2_nextToken_109 rfl 0 rfl ?_
                        refine j_dup (pc' := 111) C dX2_nextToken_110 rfl rfl ?_
                        refine j_get (v := .int (nI e)) (pc' := 114) C KX2 0 3 rfl (by decide) fl_X2_29 rfl rfl dX2_nextToken_111 rfl ?_
                        refine j_iconst (v := (nI 1)) (pc' := 115) C dX2_nextToken_114 rfl (by decide +kernel) ?_
                        refine j_iadd (v := (nI (e + 1))) (pc' := 116) C dX2_nextToken_115 rfl (nI_add e 1) ?_
                        refine j_put (pc' := 119) C [(aR, .inr (2, [.ref aD, .int (nI n), .ref aX, .int (nI (e + 1)), .int tk2, .int (nI p)])), (aX, .inl (cyI, 100, .inl (nA x)))] KX2 0 3 rfl (by decide) fl_X2_29 rfl rfl rfl rfl (Nat.le_of_ble_eq_true rfl) dX2_nextToken_116 rfl rfl ?_
                        refine j_aload_n (pc' := 120) C dX2_nextToken_119 rfl 0 rfl ?_
                        refine j_bipush (v := (-2)) (pc' := 122) C dX2_nextToken_120 rfl (by decide +kernel) ?_
                        refine j_put (pc' := 125) C [(aR, .inr (2, [.ref aD, .int (nI n), .ref aX, .int (nI (e + 1)), .int (-2), .int (nI p)])), (aX, .inl (cyI, 100, .inl (nA x)))] KX2 0 4 rfl (by decide) fl_X2_35 rfl rfl rfl rfl (Nat.le_of_ble_eq_true rfl) dX2_nextToken_122 rfl rfl ?_
                        refine j_iinc (v := (nI (i + 1))) (pc' := 128) C [(1, .int (nI (i + 1))), (0, .ref aR)] dX2_nextToken_125 rfl 1 rfl (inc_n i 1) (by decide) rfl ?_
                        refine j_goto C 89 dX2_nextToken_128 (by decide) ?_
                        refine j_lsub [(0, .ref aR), (1, .int (nI (i + 1)))] [1, 0] rfl ?_
                        exact ih89 (i + 1) (e + 1) (-2) (⟨by omega, by omega, by omega, by rw [← he2]; exact (dgp_s (by omega) c106).symm, Or.inr ⟨by omega, rfl⟩⟩) (by omega)
                    · refine j_cSi (As := [.int (-1)]) (wr := [(aR, .inr (2, [.ref aD, .int (nI n), .ref aX, .int (nI e), .int tk2, .int (nI p)])), (aX, .inl (cyI, 100, .inl (nA x)))]) (pc' := 106) C (c_X2_isDigit (v := (-1)) ) Y_X2_isDigit (ml_X2_83) [] [0, 1] rfl rfl rfl rfl (by decide) dX2_nextToken_103 rfl rfl rfl (Nat.le_of_ble_eq_true rfl) ⟨Nat.le_of_ble_eq_true rfl, Nat.le_of_ble_eq_true rfl⟩ ⟨Nat.le_of_ble_eq_true rfl, Nat.le_of_ble_eq_true rfl⟩ ⟨rfl, rfl⟩ (fun r16 w1 hQ => ?_)
                      obtain ⟨rfl, rfl⟩ := hQ
                      refine j_perm [(aR, .inr (2, [.ref aD, .int (nI n), .ref aX, .int (nI e), .int tk2, .int (nI p)])), (aX, .inl (cyI, 100, .inl (nA x)))] [0, 1] rfl rfl (by decide) ?_
                      refine j_top (bI false) (by decide +kernel) ?_
                      refine j_b_eq (pc' := 109) C 131 dX2_nextToken_106 (by decide) rfl (fun c106 => ?_) (fun c106 => ?_)
                      · have hs : skp x n b0 = p := by rw [← hp2]; exact skp_e (by first | exact Or.inr c18 | exact Or.inl (by omega))
                        have h91 := dgp_s (show p < n by omega) c83
                        have hde : dgp x n p = e := by rw [h91, ← he2]; exact dgp_e (by first | exact Or.inl (by omega) | exact Or.inr c106)
                        have he : tke x n b0 = e := by unfold tke; rw [hs, if_pos (by omega), if_pos c83, hde]
                        have h63 := of_decide_eq_true c83
                        have hv : tki (tkv x n b0) = tk2 := by
                          unfold tkv
                          rw [hs, if_pos (by omega), if_pos c83, hde]
                          rcases htk with ⟨q9, q8⟩ | ⟨q9, q8⟩
                          · rw [if_pos q9, q8, tki_n (by omega) (by omega)]
                          · rw [if_neg (by omega), q8]; rfl
                        exact j_vret C hr hk hA dX2_nextToken_131 (by rw [hv, he, hs])
                      · exact absurd c106 (by decide)
                · exact ⟨by omega, by omega, by omega, rfl, Or.inl ⟨rfl, rfl⟩⟩
              · have hs : skp x n b0 = p := by rw [← hp2]; exact skp_e (by first | exact Or.inr c18 | exact Or.inl (by omega))
                have hv : tkv x n b0 = x p := by unfold tkv; rw [hs, if_pos (by omega), if_neg (by rw [c83]; decide)]
                have he : tke x n b0 = p + 1 := by unfold tke; rw [hs, if_pos (by omega), if_neg (by rw [c83]; decide)]
                exact j_vret C hr hk hA dX2_nextToken_86 (by rw [hv, he, hs, tki_n (by omega) (by omega)])
            · exact absurd c62 (fun q9 => q9 (n_m1 (by omega)))
          · exact absurd hL11 (by omega)
        · refine j_aload_n (pc' := 22) C dX2_nextToken_21 rfl 0 rfl ?_
          refine j_dup (pc' := 23) C dX2_nextToken_22 rfl rfl ?_
          refine j_get (v := .int (nI p)) (pc' := 26) C KX2 0 3 rfl (by decide) fl_X2_29 rfl rfl dX2_nextToken_23 rfl ?_
          refine j_iconst (v := (nI 1)) (pc' := 27) C dX2_nextToken_26 rfl (by decide +kernel) ?_
          refine j_iadd (v := (nI (p + 1))) (pc' := 28) C dX2_nextToken_27 rfl (nI_add p 1) ?_
          refine j_put (pc' := 31) C [(aR, .inr (2, [.ref aD, .int (nI n), .ref aX, .int (nI (p + 1)), .int rt, .int rp])), (aX, .inl (cyI, 100, .inl (nA x)))] KX2 0 3 rfl (by decide) fl_X2_29 rfl rfl rfl rfl (Nat.le_of_ble_eq_true rfl) dX2_nextToken_28 rfl rfl ?_
          refine j_iinc (v := (nI (i + 1))) (pc' := 34) C [(1, .int (nI (i + 1))), (0, .ref aR)] dX2_nextToken_31 rfl 1 rfl (inc_n i 1) (by decide) rfl ?_
          refine j_goto C 2 dX2_nextToken_34 (by decide) ?_
          refine j_lsub [(0, .ref aR), (1, .int (nI (i + 1)))] [1, 0] rfl ?_
          exact ih2 (i + 1) (p + 1) (⟨by omega, by omega, by rw [← hp2]; exact (skp_s (by omega) c18).symm⟩) (by omega)
      · refine j_bipush (v := (nI 32)) (pc' := 18) C dX2_nextToken_16 rfl (by decide +kernel) ?_
        refine j_ic_ne (pc' := 21) C 37 dX2_nextToken_18 (by decide) rfl (fun c18 => ?_) (fun c18 => ?_)
        · refine j_aload_n (pc' := 38) C dX2_nextToken_37 rfl 0 rfl ?_
          refine j_aload_n (pc' := 39) C dX2_nextToken_38 rfl 0 rfl ?_
          refine j_get (v := .int (nI p)) (pc' := 42) C KX2 0 3 rfl (by decide) fl_X2_29 rfl rfl dX2_nextToken_39 rfl ?_
          refine j_put (pc' := 45) C [(aR, .inr (2, [.ref aD, .int (nI n), .ref aX, .int (nI p), .int rt, .int (nI p)])), (aX, .inl (cyI, 100, .inl (nA x)))] KX2 0 5 rfl (by decide) fl_X2_42 rfl rfl rfl rfl (Nat.le_of_ble_eq_true rfl) dX2_nextToken_42 rfl rfl ?_
          refine j_aload_n (pc' := 46) C dX2_nextToken_45 rfl 0 rfl ?_
          refine j_aload_n (pc' := 47) C dX2_nextToken_46 rfl 0 rfl ?_
          refine j_aload_n (pc' := 48) C dX2_nextToken_47 rfl 0 rfl ?_
          refine j_get (v := .int (nI p)) (pc' := 51) C KX2 0 3 rfl (by decide) fl_X2_29 rfl rfl dX2_nextToken_48 rfl ?_
          refine j_cVi (As := [.int (nI p)]) (wr := []) (pc' := 54) C (c_X2_letterAt (aR := aR) (aD := aD) (aX := aX) (ra := (nI p)) (rt := rt) (rp := (nI p)) (x := x) (n := n) (k := p) (hn := by first | assumption | omega) (hx := by first | assumption | omega) (hk2 := by omega)) Y_X2_letterAt (ml_X2_86) [0, 1] [] rfl rfl rfl rfl (by decide) rfl rfl rfl dX2_nextToken_51 rfl rfl rfl (Nat.le_of_ble_eq_true rfl) ⟨Nat.le_of_ble_eq_true rfl, Nat.le_of_ble_eq_true rfl⟩ ⟨Nat.le_of_ble_eq_true rfl, Nat.le_of_ble_eq_true rfl⟩ ⟨rfl, rfl⟩ (fun r17 w1 hQ => ?_)
          obtain ⟨rfl, hF51⟩ := hQ
          rcases hF51 with ⟨hL18, rfl⟩ | ⟨hL18, rfl⟩
          · exact absurd hL18 (by omega)
          · refine j_put (pc' := 57) C [(aR, .inr (2, [.ref aD, .int (nI n), .ref aX, .int (nI p), .int (-1), .int (nI p)])), (aX, .inl (cyI, 100, .inl (nA x)))] KX2 0 4 rfl (by decide) fl_X2_35 rfl rfl rfl rfl (Nat.le_of_ble_eq_true rfl) dX2_nextToken_54 rfl rfl ?_
            refine j_aload_n (pc' := 58) C dX2_nextToken_57 rfl 0 rfl ?_
            refine j_get (v := .int (-1)) (pc' := 61) C KX2 0 4 rfl (by decide) fl_X2_35 rfl rfl dX2_nextToken_58 rfl ?_
            refine j_iconst (v := (-1)) (pc' := 62) C dX2_nextToken_61 rfl (by decide +kernel) ?_
            refine j_ic_ne (pc' := 65) C 66 dX2_nextToken_62 (by decide) rfl (fun c62 => ?_) (fun c62 => ?_)
            · exact absurd c62 (by decide +kernel)
            · have hs : skp x n b0 = p := by rw [← hp2]; exact skp_e (Or.inl (by omega))
              exact j_vret C hr hk hA dX2_nextToken_65 (by unfold tke tkv; rw [hs, if_neg (by omega), if_neg (by omega)]; rfl)
        · exact absurd c18 (by decide +kernel)
  · exact ⟨Nat.zero_le _, hp, rfl⟩

set_option maxHeartbeats 4000000 in
set_option maxRecDepth 100000 in
theorem c_X2_readNumber {lch : Launch} {dG : va_G} {cyI cyZ cyO : ClassId} (aR : Nat) (aD : Nat) (aX : Nat) (rt : Int32) (rp : Int32) (x : Nat → Nat) (n : Nat) (p : Nat) (lo : Nat) (hi : Nat) (hn : n ≤ 100) (hx : ∀ i, i < n → x i < 256) (hp : p ≤ n) (hlo : lo < 10) (hhi : hi < 10) : Ki lch yX2_readNumber cX2_readNumber 4 .int (rmk 3) dG (cyI, cyZ, cyO) [.ref aR, .int (nI lo), .int (nI hi)] [(aR, .inr (2, [.ref aD, .int (nI n), .ref aX, .int (nI p), .int rt, .int rp])), (aX, .inl (cyI, 100, .inl (nA x)))] (fun r w1 => w1 = [(aR, .inr (2, [.ref aD, .int (nI n), .ref aX, .int (nI (tke x n p)), .int (tki (tkv x n p)), .int (nI (skp x n p))])), (aX, .inl (cyI, 100, .inl (nA x)))] ∧ ((okN x n p lo hi = true ∧ r = nI (tkv x n p - 48)) ∨ (okN x n p lo hi = false ∧ r = -9))) := by
  have hvl := tkv_lt (p := p) hx
  refine Ki.of (own := RX2) rfl (by decide) (Nat.le_of_ble_eq_true rfl) (fun p0 e0 s0 m0 ar0 be0 me0 cd0 A0 C hr hk hnm hA => ?_)
  refine j_lsub [(0, .ref aR), (1, .int (nI lo)), (2, .int (nI hi))] [0, 1, 2] rfl ?_
  refine j_aload_n (pc' := 1) C dX2_readNumber_0 rfl 0 rfl ?_
  refine j_cVv (As := []) (wr := []) (pc' := 4) C (c_X2_nextToken (aR := aR) (aD := aD) (aX := aX) (rt := rt) (rp := rp) (x := x) (n := n) (b0 := p) (hn := by first | assumption | omega) (hx := by first | assumption | omega) (hp := by first | assumption | omega)) Y_X2_nextToken (ml_X2_32) [0, 1] [] rfl rfl rfl rfl (by decide) rfl rfl rfl dX2_readNumber_1 rfl rfl rfl (Nat.le_of_ble_eq_true rfl) ⟨Nat.le_of_ble_eq_true rfl, Nat.le_of_ble_eq_true rfl⟩ ⟨Nat.le_of_ble_eq_true rfl, Nat.le_of_ble_eq_true rfl⟩ ⟨rfl, rfl⟩ (fun w1 hQ => ?_)
  obtain rfl := hQ
  refine j_aload_n (pc' := 5) C dX2_readNumber_4 rfl 0 rfl ?_
  refine j_get (v := .int (tki (tkv x n p))) (pc' := 8) C KX2 0 4 rfl (by decide) fl_X2_35 rfl rfl dX2_readNumber_5 rfl ?_
  refine j_cSi (As := [.int (tki (tkv x n p))]) (wr := [(aR, .inr (2, [.ref aD, .int (nI n), .ref aX, .int (nI (tke x n p)), .int (tki (tkv x n p)), .int (nI (skp x n p))])), (aX, .inl (cyI, 100, .inl (nA x)))]) (pc' := 11) C (c_X2_isDigit (v := (tki (tkv x n p))) ) Y_X2_isDigit (ml_X2_83) [] [0, 1] rfl rfl rfl rfl (by decide) dX2_readNumber_8 rfl rfl rfl (Nat.le_of_ble_eq_true rfl) ⟨Nat.le_of_ble_eq_true rfl, Nat.le_of_ble_eq_true rfl⟩ ⟨Nat.le_of_ble_eq_true rfl, Nat.le_of_ble_eq_true rfl⟩ ⟨rfl, rfl⟩ (fun r2 w1 hQ => ?_)
  obtain ⟨rfl, rfl⟩ := hQ
  refine j_perm [(aR, .inr (2, [.ref aD, .int (nI n), .ref aX, .int (nI (tke x n p)), .int (tki (tkv x n p)), .int (nI (skp x n p))])), (aX, .inl (cyI, 100, .inl (nA x)))] [0, 1] rfl rfl (by decide) ?_
  refine j_top (bI (isD (tkv x n p))) (by rw [tki_D hvl]) ?_
  refine j_b_ne (pc' := 14) C 17 dX2_readNumber_11 (by decide) rfl (fun c11 => ?_) (fun c11 => ?_)
  · have hd2 := tkv_D c11
    refine j_aload_n (pc' := 18) C dX2_readNumber_17 rfl 0 rfl ?_
    refine j_get (v := .int (tki (tkv x n p))) (pc' := 21) C KX2 0 4 rfl (by decide) fl_X2_35 rfl rfl dX2_readNumber_18 rfl ?_
    refine j_top (nI (tkv x n p)) (tki_n (by omega) (by omega)) ?_
    refine j_bipush (v := (nI 48)) (pc' := 23) C dX2_readNumber_21 rfl (by decide +kernel) ?_
    refine j_isub (v := (nI ((tkv x n p) - 48))) (pc' := 24) C dX2_readNumber_23 rfl (pk_sub (by omega)) ?_
    refine j_istore_n (pc' := 25) C [(3, .int (nI ((tkv x n p) - 48))), (0, .ref aR), (1, .int (nI lo)), (2, .int (nI hi))] dX2_readNumber_24 rfl (by decide) rfl ?_
    refine j_iload_n (pc' := 26) C dX2_readNumber_25 rfl 0 rfl ?_
    refine j_iload_n (pc' := 27) C dX2_readNumber_26 rfl 2 rfl ?_
    refine j_nc_lt (pc' := 30) C 39 dX2_readNumber_27 (by decide) rfl (by omega) (by omega) (fun c27 => ?_) (fun c27 => ?_)
    · refine j_bipush (v := (-9)) (pc' := 41) C dX2_readNumber_39 rfl (by decide +kernel) ?_
      exact j_iret C hr hk hA dX2_readNumber_41 (rfl) (⟨rfl, Or.inr ⟨by unfold okN; rw [c11, decide_eq_false (by omega)]; rfl, rfl⟩⟩)
    · refine j_iload_n (pc' := 31) C dX2_readNumber_30 rfl 0 rfl ?_
      refine j_iload_n (pc' := 32) C dX2_readNumber_31 rfl 3 rfl ?_
      refine j_nc_gt (pc' := 35) C 39 dX2_readNumber_32 (by decide) rfl (by omega) (by omega) (fun c32 => ?_) (fun c32 => ?_)
      · refine j_bipush (v := (-9)) (pc' := 41) C dX2_readNumber_39 rfl (by decide +kernel) ?_
        exact j_iret C hr hk hA dX2_readNumber_41 (rfl) (⟨rfl, Or.inr ⟨by unfold okN; rw [c11, decide_eq_false (by omega)]; rfl, rfl⟩⟩)
      · refine j_iload_n (pc' := 36) C dX2_readNumber_35 rfl 0 rfl ?_
        refine j_goto C 41 dX2_readNumber_36 (by decide) ?_
        exact j_iret C hr hk hA dX2_readNumber_41 (rfl) (⟨rfl, Or.inl ⟨by unfold okN; rw [c11, decide_eq_true (by omega)]; rfl, rfl⟩⟩)
  · refine j_bipush (v := (-9)) (pc' := 16) C dX2_readNumber_14 rfl (by decide +kernel) ?_
    exact j_iret C hr hk hA dX2_readNumber_16 (rfl) (⟨rfl, Or.inr ⟨by unfold okN; rw [c11]; rfl, rfl⟩⟩)

set_option maxHeartbeats 4000000 in
set_option maxRecDepth 100000 in
theorem c_X2_readSemicolon {lch : Launch} {dG : va_G} {cyI cyZ cyO : ClassId} (aR : Nat) (aD : Nat) (aX : Nat) (rt : Int32) (rp : Int32) (x : Nat → Nat) (n : Nat) (p : Nat) (hn : n ≤ 100) (hx : ∀ i, i < n → x i < 256) (hp : p ≤ n) : Ki lch yX2_readSemicolon cX2_readSemicolon 1 .boolean (rmk 3) dG (cyI, cyZ, cyO) [.ref aR] [(aR, .inr (2, [.ref aD, .int (nI n), .ref aX, .int (nI p), .int rt, .int rp])), (aX, .inl (cyI, 100, .inl (nA x)))] (fun r w1 => w1 = [(aR, .inr (2, [.ref aD, .int (nI n), .ref aX, .int (nI (tke x n p)), .int (tki (tkv x n p)), .int (nI (skp x n p))])), (aX, .inl (cyI, 100, .inl (nA x)))] ∧ r = (bI (decide (tkv x n p = 59)))) := by
  have hvl := tkv_lt (p := p) hx
  refine Ki.of (own := RX2) rfl (by decide) (Nat.le_of_ble_eq_true rfl) (fun p0 e0 s0 m0 ar0 be0 me0 cd0 A0 C hr hk hnm hA => ?_)
  refine j_lsub [(0, .ref aR)] [0] rfl ?_
  refine j_aload_n (pc' := 1) C dX2_readSemicolon_0 rfl 0 rfl ?_
  refine j_cVv (As := []) (wr := []) (pc' := 4) C (c_X2_nextToken (aR := aR) (aD := aD) (aX := aX) (rt := rt) (rp := rp) (x := x) (n := n) (b0 := p) (hn := by first | assumption | omega) (hx := by first | assumption | omega) (hp := by first | assumption | omega)) Y_X2_nextToken (ml_X2_32) [0, 1] [] rfl rfl rfl rfl (by decide) rfl rfl rfl dX2_readSemicolon_1 rfl rfl rfl (Nat.le_of_ble_eq_true rfl) ⟨Nat.le_of_ble_eq_true rfl, Nat.le_of_ble_eq_true rfl⟩ ⟨Nat.le_of_ble_eq_true rfl, Nat.le_of_ble_eq_true rfl⟩ ⟨rfl, rfl⟩ (fun w1 hQ => ?_)
  obtain rfl := hQ
  refine j_aload_n (pc' := 5) C dX2_readSemicolon_4 rfl 0 rfl ?_
  refine j_get (v := .int (tki (tkv x n p))) (pc' := 8) C KX2 0 4 rfl (by decide) fl_X2_35 rfl rfl dX2_readSemicolon_5 rfl ?_
  refine j_bipush (v := (nI 59)) (pc' := 10) C dX2_readSemicolon_8 rfl (by decide +kernel) ?_
  refine j_ic_ne (pc' := 13) C 17 dX2_readSemicolon_10 (by decide) rfl (fun c10 => ?_) (fun c10 => ?_)
  · refine j_iconst (v := (nI 0)) (pc' := 18) C dX2_readSemicolon_17 rfl (by decide +kernel) ?_
    refine j_top (bI false) (by decide +kernel) ?_
    exact j_iret C hr hk hA dX2_readSemicolon_18 (nrw_bI _) (⟨rfl, bI_f (fun q9 => c10 ((tki_eq hvl (by decide)).mpr q9))⟩)
  · refine j_iconst (v := (nI 1)) (pc' := 14) C dX2_readSemicolon_13 rfl (by decide +kernel) ?_
    refine j_goto C 18 dX2_readSemicolon_14 (by decide) ?_
    refine j_top (bI true) (by decide +kernel) ?_
    exact j_iret C hr hk hA dX2_readSemicolon_18 (nrw_bI _) (⟨rfl, bI_t ((tki_eq hvl (by decide)).mp (Classical.not_not.mp c10))⟩)

set_option maxHeartbeats 4000000 in
set_option maxRecDepth 100000 in
theorem c_X2_readNodes {lch : Launch} {dG : va_G} {cyI cyZ cyO : ClassId} (aR : Nat) (aD : Nat) (aX : Nat) (rt : Int32) (x : Nat → Nat) (d : Nat → Nat) (aDk : Nat) (aDf : Nat) (aDs : Nat) (aDb : Nat) (aDl : Nat) (dkd : Nat → Nat) (dfi : Nat → Nat) (dse : Nat → Nat) (dsb : Nat → Nat) (dld : Nat → Nat) (n : Nat) (p : Nat) (pl : Nat) (hn : n ≤ 100) (hx : ∀ i, i < n → x i < 256) (hp : p ≤ n) (hT : WT d) (hRN : RN d dkd dfi dse dsb dld) : Ki lch yX2_readNodes cX2_readNodes 2 .boolean (rmk 4) dG (cyI, cyZ, cyO) [.ref aR] [(aR, .inr (2, [.ref aD, .int (nI n), .ref aX, .int (nI p), .int rt, .int (nI pl)])), (aX, .inl (cyI, 100, .inl (nA x))), (aD, .inr (1, [.int (nI (d 0)), .int (nI (d 1)), .int (nI (d 2)), .ref aDk, .ref aDf, .ref aDs, .ref aDb, .ref aDl])), (aDk, .inl (cyI, 9, .inl (nA dkd))), (aDf, .inl (cyI, 9, .inl (nA dfi))), (aDs, .inl (cyI, 9, .inl (nA dse))), (aDb, .inl (cyI, 9, .inl (nA dsb))), (aDl, .inl (cyI, 3, .inl (nA dld)))] (fun r w1 => ∃ (at1 : Int32), ∃ (tk1 : Int32), ∃ (pl1 : Int32), ∃ (n0 : Nat), ∃ (n1 : Nat), ∃ (n2 : Nat), ∃ (k1 : Nat → Nat), ∃ (f1 : Nat → Nat), ∃ (s1 : Nat → Nat), ∃ (b1 : Nat → Nat), ∃ (l1 : Nat → Nat), ∃ (b : Bool), w1 = [(aR, .inr (2, [.ref aD, .int (nI n), .ref aX, .int at1, .int tk1, .int pl1])), (aX, .inl (cyI, 100, .inl (nA x))), (aD, .inr (1, [.int (nI n0), .int (nI n1), .int (nI n2), .ref aDk, .ref aDf, .ref aDs, .ref aDb, .ref aDl])), (aDk, .inl (cyI, 9, .inl (nA k1))), (aDf, .inl (cyI, 9, .inl (nA f1))), (aDs, .inl (cyI, 9, .inl (nA s1))), (aDb, .inl (cyI, 9, .inl (nA b1))), (aDl, .inl (cyI, 3, .inl (nA l1)))] ∧ r = (bI b) ∧ RG n (rdS x n (rdB x n 110 p d)) b at1 pl1 n0 n1 n2 k1 f1 s1 b1 l1) := by
  have h1 := hT.n
  have g1 := tke_ge x hp
  have g2 := tke_ge x g1.2
  have g3 := tke_ge x g2.2
  refine Ki.of (own := RX2) rfl (by decide) (Nat.le_of_ble_eq_true rfl) (fun p0 e0 s0 m0 ar0 be0 me0 cd0 A0 C hr hk hnm hA => ?_)
  refine j_lsub [(0, .ref aR)] [0] rfl ?_
  refine j_aload_n (pc' := 1) C dX2_readNodes_0 rfl 0 rfl ?_
  refine j_iconst (v := (nI 2)) (pc' := 2) C dX2_readNodes_1 rfl (by decide +kernel) ?_
  refine j_bipush (v := (nI 7)) (pc' := 4) C dX2_readNodes_2 rfl (by decide +kernel) ?_
  refine j_cVi (As := [.int (nI 2), .int (nI 7)]) (wr := [(aD, .inr (1, [.int (nI (d 0)), .int (nI (d 1)), .int (nI (d 2)), .ref aDk, .ref aDf, .ref aDs, .ref aDb, .ref aDl])), (aDk, .inl (cyI, 9, .inl (nA dkd))), (aDf, .inl (cyI, 9, .inl (nA dfi))), (aDs, .inl (cyI, 9, .inl (nA dse))), (aDb, .inl (cyI, 9, .inl (nA dsb))), (aDl, .inl (cyI, 3, .inl (nA dld)))]) (pc' := 7) C (c_X2_readNumber (aR := aR) (aD := aD) (aX := aX) (rt := rt) (rp := (nI pl)) (x := x) (n := n) (p := p) (lo := 2) (hi := 7) (hn := by first | assumption | omega) (hx := by first | assumption | omega) (hp := by first | assumption | omega) (hlo := by first | assumption | omega) (hhi := by first | assumption | omega)) Y_X2_readNumber (ml_X2_56) [0, 1] [2, 3, 4, 5, 6, 7] rfl rfl rfl rfl (by decide) rfl rfl rfl dX2_readNodes_4 rfl rfl rfl (Nat.le_of_ble_eq_true rfl) ⟨Nat.le_of_ble_eq_true rfl, Nat.le_of_ble_eq_true rfl⟩ ⟨Nat.le_of_ble_eq_true rfl, Nat.le_of_ble_eq_true rfl⟩ ⟨rfl, rfl⟩ (fun r1 w1 hQ => ?_)
  obtain ⟨rfl, hF4⟩ := hQ
  refine j_perm [(aR, .inr (2, [.ref aD, .int (nI n), .ref aX, .int (nI (tke x n p)), .int (tki (tkv x n p)), .int (nI (skp x n p))])), (aX, .inl (cyI, 100, .inl (nA x))), (aD, .inr (1, [.int (nI (d 0)), .int (nI (d 1)), .int (nI (d 2)), .ref aDk, .ref aDf, .ref aDs, .ref aDb, .ref aDl])), (aDk, .inl (cyI, 9, .inl (nA dkd))), (aDf, .inl (cyI, 9, .inl (nA dfi))), (aDs, .inl (cyI, 9, .inl (nA dse))), (aDb, .inl (cyI, 9, .inl (nA dsb))), (aDl, .inl (cyI, 3, .inl (nA dld)))] [6, 7, 0, 1, 2, 3, 4, 5] rfl rfl (by decide) ?_
  rcases hF4 with ⟨hk1, rfl⟩ | ⟨hk1, rfl⟩
  · have whk1 := okN_t hk1
    refine j_istore_n (pc' := 8) C [(1, .int (nI (tkv x n p - 48))), (0, .ref aR)] dX2_readNodes_7 rfl (by decide) rfl ?_
    refine j_iload_n (pc' := 9) C dX2_readNodes_8 rfl 0 rfl ?_
    refine j_if_ge (pc' := 12) C 14 dX2_readNodes_9 (by decide) rfl (fun c9 => ?_) (fun c9 => ?_)
    · refine j_aload_n (pc' := 15) C dX2_readNodes_14 rfl 1 rfl ?_
      refine j_get (v := .ref aD) (pc' := 18) C KX2 0 0 rfl (by decide) fl_X2_12 rfl rfl dX2_readNodes_15 rfl ?_
      refine j_iload_n (pc' := 19) C dX2_readNodes_18 rfl 0 rfl ?_
      refine j_put (pc' := 22) C [(aR, .inr (2, [.ref aD, .int (nI n), .ref aX, .int (nI (tke x n p)), .int (tki (tkv x n p)), .int (nI (skp x n p))])), (aX, .inl (cyI, 100, .inl (nA x))), (aD, .inr (1, [.int (nI (tkv x n p - 48)), .int (nI (d 1)), .int (nI (d 2)), .ref aDk, .ref aDf, .ref aDs, .ref aDb, .ref aDl])), (aDk, .inl (cyI, 9, .inl (nA dkd))), (aDf, .inl (cyI, 9, .inl (nA dfi))), (aDs, .inl (cyI, 9, .inl (nA dse))), (aDb, .inl (cyI, 9, .inl (nA dsb))), (aDl, .inl (cyI, 3, .inl (nA dld)))] KX1 2 0 rfl (by decide) fl_X2_60 rfl rfl rfl rfl (Nat.le_of_ble_eq_true rfl) dX2_readNodes_19 rfl rfl ?_
      refine j_aload_n (pc' := 23) C dX2_readNodes_22 rfl 1 rfl ?_
      refine j_cVi (As := []) (wr := [(aD, .inr (1, [.int (nI (tkv x n p - 48)), .int (nI (d 1)), .int (nI (d 2)), .ref aDk, .ref aDf, .ref aDs, .ref aDb, .ref aDl])), (aDk, .inl (cyI, 9, .inl (nA dkd))), (aDf, .inl (cyI, 9, .inl (nA dfi))), (aDs, .inl (cyI, 9, .inl (nA dse))), (aDb, .inl (cyI, 9, .inl (nA dsb))), (aDl, .inl (cyI, 3, .inl (nA dld)))]) (pc' := 26) C (c_X2_readSemicolon (aR := aR) (aD := aD) (aX := aX) (rt := (tki (tkv x n p))) (rp := (nI (skp x n p))) (x := x) (n := n) (p := tke x n p) (hn := by first | assumption | omega) (hx := by first | assumption | omega) (hp := by first | assumption | omega)) Y_X2_readSemicolon (ml_X2_63) [0, 1] [2, 3, 4, 5, 6, 7] rfl rfl rfl rfl (by decide) rfl rfl rfl dX2_readNodes_23 rfl rfl rfl (Nat.le_of_ble_eq_true rfl) ⟨Nat.le_of_ble_eq_true rfl, Nat.le_of_ble_eq_true rfl⟩ ⟨Nat.le_of_ble_eq_true rfl, Nat.le_of_ble_eq_true rfl⟩ ⟨rfl, rfl⟩ (fun r2 w1 hQ => ?_)
      obtain ⟨rfl, rfl⟩ := hQ
      refine j_perm [(aR, .inr (2, [.ref aD, .int (nI n), .ref aX, .int (nI (tke x n (tke x n p))), .int (tki (tkv x n (tke x n p))), .int (nI (skp x n (tke x n p)))])), (aX, .inl (cyI, 100, .inl (nA x))), (aD, .inr (1, [.int (nI (tkv x n p - 48)), .int (nI (d 1)), .int (nI (d 2)), .ref aDk, .ref aDf, .ref aDs, .ref aDb, .ref aDl])), (aDk, .inl (cyI, 9, .inl (nA dkd))), (aDf, .inl (cyI, 9, .inl (nA dfi))), (aDs, .inl (cyI, 9, .inl (nA dse))), (aDb, .inl (cyI, 9, .inl (nA dsb))), (aDl, .inl (cyI, 3, .inl (nA dld)))] [6, 7, 0, 1, 2, 3, 4, 5] rfl rfl (by decide) ?_
      have hrs : rdB x n 110 p d = .inr (tke x n p, uN d 0 (tkv x n p - 48)) := by unfold rdB; rw [if_pos rfl, if_neg (by rw [hk1]; decide)]
      have hgs := tke_ge x (n := n) (p := tke x n p) (by omega)
      have hgk := skp_ge x (n := n) (p := tke x n p) (by omega)
      exact j_iret C hr hk hA dX2_readNodes_26 (nrw_bI _) (if h59 : tkv x n (tke x n p) = 59 then ⟨_, _, _, _, _, _, _, _, _, _, _, _, rfl, rfl, Or.inl ⟨decide_eq_true h59, _, uN d 0 (tkv x n p - 48), by rw [hrs]; unfold rdS; dsimp only; rw [if_pos h59], by omega, rfl, by rw [uN_s], by rw [uN_n (by omega)], by rw [uN_n (by omega)], RN_n hRN⟩⟩ else ⟨_, _, _, _, _, _, _, _, _, _, _, _, rfl, rfl, Or.inr ⟨decide_eq_false h59, _, by rw [hrs]; unfold rdS; dsimp only; rw [if_neg h59], by omega, rfl⟩⟩)
    · exact absurd c9 (nI_neg_no (by omega))
  · refine j_istore_n (pc' := 8) C [(1, .int (-9)), (0, .ref aR)] dX2_readNodes_7 rfl (by decide) rfl ?_
    refine j_iload_n (pc' := 9) C dX2_readNodes_8 rfl 0 rfl ?_
    refine j_if_ge (pc' := 12) C 14 dX2_readNodes_9 (by decide) rfl (fun c9 => ?_) (fun c9 => ?_)
    · exact absurd c9 (by decide +kernel)
    · refine j_iconst (v := (nI 0)) (pc' := 13) C dX2_readNodes_12 rfl (by decide +kernel) ?_
      refine j_top (bI false) (by decide +kernel) ?_
      exact j_iret C hr hk hA dX2_readNodes_13 (nrw_bI _) (⟨_, _, _, _, _, _, _, _, _, _, _, _, rfl, rfl, Or.inr ⟨rfl, _, by unfold rdB; rw [if_pos rfl, if_pos hk1]; rfl, (skp_ge x (by omega)).2, rfl⟩⟩)

set_option maxHeartbeats 4000000 in
set_option maxRecDepth 100000 in
theorem c_X2_readContact_f {lch : Launch} {dG : va_G} {cyI cyZ cyO : ClassId} (aR : Nat) (aD : Nat) (aX : Nat) (rt : Int32) (x : Nat → Nat) (d : Nat → Nat) (aDk : Nat) (aDf : Nat) (aDs : Nat) (aDb : Nat) (aDl : Nat) (dkd : Nat → Nat) (dfi : Nat → Nat) (dse : Nat → Nat) (dsb : Nat → Nat) (dld : Nat → Nat) (n : Nat) (p : Nat) (pl : Nat) (kd : Nat) (hc : 9 ≤ d 1) (hT : WT d) : Ki lch yX2_readContact cX2_readContact 5 .boolean (rmk 4) dG (cyI, cyZ, cyO) [.ref aR, .int (nI kd)] [(aR, .inr (2, [.ref aD, .int (nI n), .ref aX, .int (nI p), .int rt, .int (nI pl)])), (aX, .inl (cyI, 100, .inl (nA x))), (aD, .inr (1, [.int (nI (d 0)), .int (nI (d 1)), .int (nI (d 2)), .ref aDk, .ref aDf, .ref aDs, .ref aDb, .ref aDl])), (aDk, .inl (cyI, 9, .inl (nA dkd))), (aDf, .inl (cyI, 9, .inl (nA dfi))), (aDs, .inl (cyI, 9, .inl (nA dse))), (aDb, .inl (cyI, 9, .inl (nA dsb))), (aDl, .inl (cyI, 3, .inl (nA dld)))] (fun r w1 => w1 = [(aR, .inr (2, [.ref aD, .int (nI n), .ref aX, .int (nI p), .int rt, .int (nI pl)])), (aX, .inl (cyI, 100, .inl (nA x))), (aD, .inr (1, [.int (nI (d 0)), .int (nI (d 1)), .int (nI (d 2)), .ref aDk, .ref aDf, .ref aDs, .ref aDb, .ref aDl])), (aDk, .inl (cyI, 9, .inl (nA dkd))), (aDf, .inl (cyI, 9, .inl (nA dfi))), (aDs, .inl (cyI, 9, .inl (nA dse))), (aDb, .inl (cyI, 9, .inl (nA dsb))), (aDl, .inl (cyI, 3, .inl (nA dld)))] ∧ r = (bI false)) := by
  have h1 := hT.n
  refine Ki.of (own := RX2) rfl (by decide) (Nat.le_of_ble_eq_true rfl) (fun p0 e0 s0 m0 ar0 be0 me0 cd0 A0 C hr hk hnm hA => ?_)
  refine j_lsub [(0, .ref aR), (1, .int (nI kd))] [0, 1] rfl ?_
  refine j_aload_n (pc' := 1) C dX2_readContact_0 rfl 0 rfl ?_
  refine j_get (v := .ref aD) (pc' := 4) C KX2 0 0 rfl (by decide) fl_X2_12 rfl rfl dX2_readContact_1 rfl ?_
  refine j_get (v := .int (nI (d 1))) (pc' := 7) C KX1 2 1 rfl (by decide) fl_X2_66 rfl rfl dX2_readContact_4 rfl ?_
  refine j_bipush (v := (nI 9)) (pc' := 9) C dX2_readContact_7 rfl (by decide +kernel) ?_
  refine j_nc_lt (pc' := 12) C 14 dX2_readContact_9 (by decide) rfl (by omega) (by omega) (fun c9 => ?_) (fun c9 => ?_)
  · exact absurd c9 (by omega)
  · refine j_iconst (v := (nI 0)) (pc' := 13) C dX2_readContact_12 rfl (by decide +kernel) ?_
    refine j_top (bI false) (by decide +kernel) ?_
    exact j_iret C hr hk hA dX2_readContact_13 (nrw_bI _) (⟨rfl, rfl⟩)

set_option maxHeartbeats 4000000 in
set_option maxRecDepth 100000 in
theorem c_X2_readContact {lch : Launch} {dG : va_G} {cyI cyZ cyO : ClassId} (aR : Nat) (aD : Nat) (aX : Nat) (rt : Int32) (x : Nat → Nat) (d : Nat → Nat) (aDk : Nat) (aDf : Nat) (aDs : Nat) (aDb : Nat) (aDl : Nat) (dkd : Nat → Nat) (dfi : Nat → Nat) (dse : Nat → Nat) (dsb : Nat → Nat) (dld : Nat → Nat) (n : Nat) (p : Nat) (pl : Nat) (kd : Nat) (hn : n ≤ 100) (hx : ∀ i, i < n → x i < 256) (hp : p ≤ n) (hT : WT d) (hRN : RN d dkd dfi dse dsb dld) (hc : d 1 < 9) (hkd : kd < 4) : Ki lch yX2_readContact cX2_readContact 5 .boolean (rmk 4) dG (cyI, cyZ, cyO) [.ref aR, .int (nI kd)] [(aR, .inr (2, [.ref aD, .int (nI n), .ref aX, .int (nI p), .int rt, .int (nI pl)])), (aX, .inl (cyI, 100, .inl (nA x))), (aD, .inr (1, [.int (nI (d 0)), .int (nI (d 1)), .int (nI (d 2)), .ref aDk, .ref aDf, .ref aDs, .ref aDb, .ref aDl])), (aDk, .inl (cyI, 9, .inl (nA dkd))), (aDf, .inl (cyI, 9, .inl (nA dfi))), (aDs, .inl (cyI, 9, .inl (nA dse))), (aDb, .inl (cyI, 9, .inl (nA dsb))), (aDl, .inl (cyI, 3, .inl (nA dld)))] (fun r w1 => ∃ (at1 : Int32), ∃ (tk1 : Int32), ∃ (pl1 : Int32), ∃ (n0 : Nat), ∃ (n1 : Nat), ∃ (n2 : Nat), ∃ (k1 : Nat → Nat), ∃ (f1 : Nat → Nat), ∃ (s1 : Nat → Nat), ∃ (b1 : Nat → Nat), ∃ (l1 : Nat → Nat), ∃ (b : Bool), w1 = [(aR, .inr (2, [.ref aD, .int (nI n), .ref aX, .int at1, .int tk1, .int pl1])), (aX, .inl (cyI, 100, .inl (nA x))), (aD, .inr (1, [.int (nI n0), .int (nI n1), .int (nI n2), .ref aDk, .ref aDf, .ref aDs, .ref aDb, .ref aDl])), (aDk, .inl (cyI, 9, .inl (nA k1))), (aDf, .inl (cyI, 9, .inl (nA f1))), (aDs, .inl (cyI, 9, .inl (nA s1))), (aDb, .inl (cyI, 9, .inl (nA b1))), (aDl, .inl (cyI, 3, .inl (nA l1)))] ∧ r = (bI b) ∧ RG n (rdS x n (rdC x n kd p d)) b at1 pl1 n0 n1 n2 k1 f1 s1 b1 l1) := by
  have h1 := hT.n
  have g1 := tke_ge x hp
  have g2 := tke_ge x g1.2
  have g3 := tke_ge x g2.2
  refine Ki.of (own := RX2) rfl (by decide) (Nat.le_of_ble_eq_true rfl) (fun p0 e0 s0 m0 ar0 be0 me0 cd0 A0 C hr hk hnm hA => ?_)
  refine j_lsub [(0, .ref aR), (1, .int (nI kd))] [0, 1] rfl ?_
  refine j_aload_n (pc' := 1) C dX2_readContact_0 rfl 0 rfl ?_
  refine j_get (v := .ref aD) (pc' := 4) C KX2 0 0 rfl (by decide) fl_X2_12 rfl rfl dX2_readContact_1 rfl ?_
  refine j_get (v := .int (nI (d 1))) (pc' := 7) C KX1 2 1 rfl (by decide) fl_X2_66 rfl rfl dX2_readContact_4 rfl ?_
  refine j_bipush (v := (nI 9)) (pc' := 9) C dX2_readContact_7 rfl (by decide +kernel) ?_
  refine j_nc_lt (pc' := 12) C 14 dX2_readContact_9 (by decide) rfl (by omega) (by omega) (fun c9 => ?_) (fun c9 => ?_)
  · refine j_aload_n (pc' := 15) C dX2_readContact_14 rfl 0 rfl ?_
    refine j_iconst (v := (nI 0)) (pc' := 16) C dX2_readContact_15 rfl (by decide +kernel) ?_
    refine j_aload_n (pc' := 17) C dX2_readContact_16 rfl 0 rfl ?_
    refine j_get (v := .ref aD) (pc' := 20) C KX2 0 0 rfl (by decide) fl_X2_12 rfl rfl dX2_readContact_17 rfl ?_
    refine j_get (v := .int (nI (d 0))) (pc' := 23) C KX1 2 0 rfl (by decide) fl_X2_60 rfl rfl dX2_readContact_20 rfl ?_
    refine j_iconst (v := (nI 1)) (pc' := 24) C dX2_readContact_23 rfl (by decide +kernel) ?_
    refine j_isub (v := (nI ((d 0) - 1))) (pc' := 25) C dX2_readContact_24 rfl (pk_sub (by omega)) ?_
    refine j_cVi (As := [.int (nI 0), .int (nI ((d 0) - 1))]) (wr := [(aD, .inr (1, [.int (nI (d 0)), .int (nI (d 1)), .int (nI (d 2)), .ref aDk, .ref aDf, .ref aDs, .ref aDb, .ref aDl])), (aDk, .inl (cyI, 9, .inl (nA dkd))), (aDf, .inl (cyI, 9, .inl (nA dfi))), (aDs, .inl (cyI, 9, .inl (nA dse))), (aDb, .inl (cyI, 9, .inl (nA dsb))), (aDl, .inl (cyI, 3, .inl (nA dld)))]) (pc' := 28) C (c_X2_readNumber (aR := aR) (aD := aD) (aX := aX) (rt := rt) (rp := (nI pl)) (x := x) (n := n) (p := p) (lo := 0) (hi := (d 0) - 1) (hn := by first | assumption | omega) (hx := by first | assumption | omega) (hp := by first | assumption | omega) (hlo := by first | assumption | omega) (hhi := by first | assumption | omega)) Y_X2_readNumber (ml_X2_56) [0, 1] [2, 3, 4, 5, 6, 7] rfl rfl rfl rfl (by decide) rfl rfl rfl dX2_readContact_25 rfl rfl rfl (Nat.le_of_ble_eq_true rfl) ⟨Nat.le_of_ble_eq_true rfl, Nat.le_of_ble_eq_true rfl⟩ ⟨Nat.le_of_ble_eq_true rfl, Nat.le_of_ble_eq_true rfl⟩ ⟨rfl, rfl⟩ (fun r1 w1 hQ => ?_)
    obtain ⟨rfl, hF25⟩ := hQ
    refine j_perm [(aR, .inr (2, [.ref aD, .int (nI n), .ref aX, .int (nI (tke x n p)), .int (tki (tkv x n p)), .int (nI (skp x n p))])), (aX, .inl (cyI, 100, .inl (nA x))), (aD, .inr (1, [.int (nI (d 0)), .int (nI (d 1)), .int (nI (d 2)), .ref aDk, .ref aDf, .ref aDs, .ref aDb, .ref aDl])), (aDk, .inl (cyI, 9, .inl (nA dkd))), (aDf, .inl (cyI, 9, .inl (nA dfi))), (aDs, .inl (cyI, 9, .inl (nA dse))), (aDb, .inl (cyI, 9, .inl (nA dsb))), (aDl, .inl (cyI, 3, .inl (nA dld)))] [6, 7, 0, 1, 2, 3, 4, 5] rfl rfl (by decide) ?_
    rcases hF25 with ⟨hk1, rfl⟩ | ⟨hk1, rfl⟩
    · have whk1 := okN_t hk1
      refine j_istore_n (pc' := 29) C [(2, .int (nI (tkv x n p - 48))), (0, .ref aR), (1, .int (nI kd))] dX2_readContact_28 rfl (by decide) rfl ?_
      refine j_iload_n (pc' := 30) C dX2_readContact_29 rfl 0 rfl ?_
      refine j_if_ge (pc' := 33) C 35 dX2_readContact_30 (by decide) rfl (fun c30 => ?_) (fun c30 => ?_)
      · refine j_aload_n (pc' := 36) C dX2_readContact_35 rfl 1 rfl ?_
        refine j_iconst (v := (nI 0)) (pc' := 37) C dX2_readContact_36 rfl (by decide +kernel) ?_
        refine j_aload_n (pc' := 38) C dX2_readContact_37 rfl 1 rfl ?_
        refine j_get (v := .ref aD) (pc' := 41) C KX2 0 0 rfl (by decide) fl_X2_12 rfl rfl dX2_readContact_38 rfl ?_
        refine j_get (v := .int (nI (d 0))) (pc' := 44) C KX1 2 0 rfl (by decide) fl_X2_60 rfl rfl dX2_readContact_41 rfl ?_
        refine j_iconst (v := (nI 1)) (pc' := 45) C dX2_readContact_44 rfl (by decide +kernel) ?_
        refine j_isub (v := (nI ((d 0) - 1))) (pc' := 46) C dX2_readContact_45 rfl (pk_sub (by omega)) ?_
        refine j_cVi (As := [.int (nI 0), .int (nI ((d 0) - 1))]) (wr := [(aD, .inr (1, [.int (nI (d 0)), .int (nI (d 1)), .int (nI (d 2)), .ref aDk, .ref aDf, .ref aDs, .ref aDb, .ref aDl])), (aDk, .inl (cyI, 9, .inl (nA dkd))), (aDf, .inl (cyI, 9, .inl (nA dfi))), (aDs, .inl (cyI, 9, .inl (nA dse))), (aDb, .inl (cyI, 9, .inl (nA dsb))), (aDl, .inl (cyI, 3, .inl (nA dld)))]) (pc' := 49) C (c_X2_readNumber (aR := aR) (aD := aD) (aX := aX) (rt := (tki (tkv x n p))) (rp := (nI (skp x n p))) (x := x) (n := n) (p := tke x n p) (lo := 0) (hi := (d 0) - 1) (hn := by first | assumption | omega) (hx := by first | assumption | omega) (hp := by first | assumption | omega) (hlo := by first | assumption | omega) (hhi := by first | assumption | omega)) Y_X2_readNumber (ml_X2_56) [0, 1] [2, 3, 4, 5, 6, 7] rfl rfl rfl rfl (by decide) rfl rfl rfl dX2_readContact_46 rfl rfl rfl (Nat.le_of_ble_eq_true rfl) ⟨Nat.le_of_ble_eq_true rfl, Nat.le_of_ble_eq_true rfl⟩ ⟨Nat.le_of_ble_eq_true rfl, Nat.le_of_ble_eq_true rfl⟩ ⟨rfl, rfl⟩ (fun r2 w1 hQ => ?_)
        obtain ⟨rfl, hF46⟩ := hQ
        refine j_perm [(aR, .inr (2, [.ref aD, .int (nI n), .ref aX, .int (nI (tke x n (tke x n p))), .int (tki (tkv x n (tke x n p))), .int (nI (skp x n (tke x n p)))])), (aX, .inl (cyI, 100, .inl (nA x))), (aD, .inr (1, [.int (nI (d 0)), .int (nI (d 1)), .int (nI (d 2)), .ref aDk, .ref aDf, .ref aDs, .ref aDb, .ref aDl])), (aDk, .inl (cyI, 9, .inl (nA dkd))), (aDf, .inl (cyI, 9, .inl (nA dfi))), (aDs, .inl (cyI, 9, .inl (nA dse))), (aDb, .inl (cyI, 9, .inl (nA dsb))), (aDl, .inl (cyI, 3, .inl (nA dld)))] [6, 7, 0, 1, 2, 3, 4, 5] rfl rfl (by decide) ?_
        rcases hF46 with ⟨hk2, rfl⟩ | ⟨hk2, rfl⟩
        · have whk2 := okN_t hk2
          refine j_istore_n (pc' := 50) C [(3, .int (nI (tkv x n (tke x n p) - 48))), (2, .int (nI (tkv x n p - 48))), (0, .ref aR), (1, .int (nI kd))] dX2_readContact_49 rfl (by decide) rfl ?_
          refine j_iload_n (pc' := 51) C dX2_readContact_50 rfl 0 rfl ?_
          refine j_if_lt (pc' := 54) C 59 dX2_readContact_51 (by decide) rfl (fun c51 => ?_) (fun c51 => ?_)
          · exact absurd c51 (nI_pos (by omega))
          · refine j_iload_n (pc' := 55) C dX2_readContact_54 rfl 0 rfl ?_
            refine j_iload_n (pc' := 56) C dX2_readContact_55 rfl 1 rfl ?_
            refine j_nc_ne (pc' := 59) C 61 dX2_readContact_56 (by decide) rfl (by omega) (by omega) (fun c56 => ?_) (fun c56 => ?_)
            · refine j_bipush (v := (-9)) (pc' := 63) C dX2_readContact_61 rfl (by decide +kernel) ?_
              refine j_istore (pc' := 65) C [(4, .int (-9)), (3, .int (nI (tkv x n (tke x n p) - 48))), (2, .int (nI (tkv x n p - 48))), (0, .ref aR), (1, .int (nI kd))] dX2_readContact_63 rfl (by decide) rfl ?_
              refine j_iload_n (pc' := 66) C dX2_readContact_65 rfl 4 rfl ?_
              refine j_iconst (v := (nI 1)) (pc' := 67) C dX2_readContact_66 rfl (by decide +kernel) ?_
              refine j_nc_gt (pc' := 70) C 85 dX2_readContact_67 (by decide) rfl (by omega) (by omega) (fun c67 => ?_) (fun c67 => ?_)
              · refine j_aload_n (pc' := 86) C dX2_readContact_85 rfl 3 rfl ?_
                refine j_get (v := .ref aD) (pc' := 89) C KX2 0 0 rfl (by decide) fl_X2_12 rfl rfl dX2_readContact_86 rfl ?_
                refine j_iload_n (pc' := 90) C dX2_readContact_89 rfl 4 rfl ?_
                refine j_iload_n (pc' := 91) C dX2_readContact_90 rfl 2 rfl ?_
                refine j_iload_n (pc' := 92) C dX2_readContact_91 rfl 1 rfl ?_
                refine j_iload (pc' := 94) C dX2_readContact_92 rfl 0 rfl ?_
                refine j_top (nI 4294967287) (by decide +kernel) ?_
                refine j_cVv (As := [.int (nI kd), .int (nI (tkv x n p - 48)), .int (nI (tkv x n (tke x n p) - 48)), .int (nI 4294967287)]) (wr := [(aR, .inr (2, [.ref aD, .int (nI n), .ref aX, .int (nI (tke x n (tke x n p))), .int (tki (tkv x n (tke x n p))), .int (nI (skp x n (tke x n p)))])), (aX, .inl (cyI, 100, .inl (nA x))), (aDl, .inl (cyI, 3, .inl (nA dld)))]) (pc' := 97) C (c_X1_addContact (aD := aD) (d := d) (aDk := aDk) (aDf := aDf) (aDs := aDs) (aDb := aDb) (aDl := aDl) (dkd := dkd) (dfi := dfi) (dse := dse) (dsb := dsb) (kd := kd) (u := tkv x n p - 48) (v := tkv x n (tke x n p) - 48) (b := 4294967287) (hc := by first | assumption | omega)) Y_X1_addContact (ml_X2_69) [2, 3, 4, 5, 6] [0, 1, 7] rfl rfl rfl rfl (by decide) rfl rfl rfl dX2_readContact_94 rfl rfl rfl (Nat.le_of_ble_eq_true rfl) ⟨Nat.le_of_ble_eq_true rfl, Nat.le_of_ble_eq_true rfl⟩ ⟨Nat.le_of_ble_eq_true rfl, Nat.le_of_ble_eq_true rfl⟩ ⟨rfl, rfl⟩ (fun w1 hQ => ?_)
                obtain rfl := hQ
                refine j_perm [(aR, .inr (2, [.ref aD, .int (nI n), .ref aX, .int (nI (tke x n (tke x n p))), .int (tki (tkv x n (tke x n p))), .int (nI (skp x n (tke x n p)))])), (aX, .inl (cyI, 100, .inl (nA x))), (aD, .inr (1, [.int (nI (d 0)), .int (nI (d 1 + 1)), .int (nI (d 2)), .ref aDk, .ref aDf, .ref aDs, .ref aDb, .ref aDl])), (aDk, .inl (cyI, 9, .inl (nA (uN dkd (d 1) kd)))), (aDf, .inl (cyI, 9, .inl (nA (uN dfi (d 1) (tkv x n p - 48))))), (aDs, .inl (cyI, 9, .inl (nA (uN dse (d 1) (tkv x n (tke x n p) - 48))))), (aDb, .inl (cyI, 9, .inl (nA (uN dsb (d 1) 4294967287)))), (aDl, .inl (cyI, 3, .inl (nA dld)))] [0, 1, 3, 4, 5, 6, 7, 2] rfl rfl (by decide) ?_
                refine j_aload_n (pc' := 98) C dX2_readContact_97 rfl 3 rfl ?_
                refine j_cVi (As := []) (wr := [(aD, .inr (1, [.int (nI (d 0)), .int (nI (d 1 + 1)), .int (nI (d 2)), .ref aDk, .ref aDf, .ref aDs, .ref aDb, .ref aDl])), (aDk, .inl (cyI, 9, .inl (nA (uN dkd (d 1) kd)))), (aDf, .inl (cyI, 9, .inl (nA (uN dfi (d 1) (tkv x n p - 48))))), (aDs, .inl (cyI, 9, .inl (nA (uN dse (d 1) (tkv x n (tke x n p) - 48))))), (aDb, .inl (cyI, 9, .inl (nA (uN dsb (d 1) 4294967287)))), (aDl, .inl (cyI, 3, .inl (nA dld)))]) (pc' := 101) C (c_X2_readSemicolon (aR := aR) (aD := aD) (aX := aX) (rt := (tki (tkv x n (tke x n p)))) (rp := (nI (skp x n (tke x n p)))) (x := x) (n := n) (p := tke x n (tke x n p)) (hn := by first | assumption | omega) (hx := by first | assumption | omega) (hp := by first | assumption | omega)) Y_X2_readSemicolon (ml_X2_63) [0, 1] [2, 3, 4, 5, 6, 7] rfl rfl rfl rfl (by decide) rfl rfl rfl dX2_readContact_98 rfl rfl rfl (Nat.le_of_ble_eq_true rfl) ⟨Nat.le_of_ble_eq_true rfl, Nat.le_of_ble_eq_true rfl⟩ ⟨Nat.le_of_ble_eq_true rfl, Nat.le_of_ble_eq_true rfl⟩ ⟨rfl, rfl⟩ (fun r4 w1 hQ => ?_)
                obtain ⟨rfl, rfl⟩ := hQ
                refine j_perm [(aR, .inr (2, [.ref aD, .int (nI n), .ref aX, .int (nI (tke x n (tke x n (tke x n p)))), .int (tki (tkv x n (tke x n (tke x n p)))), .int (nI (skp x n (tke x n (tke x n p))))])), (aX, .inl (cyI, 100, .inl (nA x))), (aD, .inr (1, [.int (nI (d 0)), .int (nI (d 1 + 1)), .int (nI (d 2)), .ref aDk, .ref aDf, .ref aDs, .ref aDb, .ref aDl])), (aDk, .inl (cyI, 9, .inl (nA (uN dkd (d 1) kd)))), (aDf, .inl (cyI, 9, .inl (nA (uN dfi (d 1) (tkv x n p - 48))))), (aDs, .inl (cyI, 9, .inl (nA (uN dse (d 1) (tkv x n (tke x n p) - 48))))), (aDb, .inl (cyI, 9, .inl (nA (uN dsb (d 1) 4294967287)))), (aDl, .inl (cyI, 3, .inl (nA dld)))] [6, 7, 0, 1, 2, 3, 4, 5] rfl rfl (by decide) ?_
                have hrs : rdC x n kd p d = .inr (tke x n (tke x n p), addC d kd (tkv x n p - 48) (tkv x n (tke x n p) - 48) 4294967287) := by unfold rdC; rw [if_neg (by rw [hk1]; decide), if_neg (by rw [hk2, decide_eq_true (show tkv x n (tke x n p) ≠ tkv x n p by omega)]; decide), if_neg (by omega)]
                have hgs := tke_ge x (n := n) (p := tke x n (tke x n p)) (by omega)
                have hgk := skp_ge x (n := n) (p := tke x n (tke x n p)) (by omega)
                exact j_iret C hr hk hA dX2_readContact_101 (nrw_bI _) (if h59 : tkv x n (tke x n (tke x n p)) = 59 then ⟨_, _, _, _, _, _, _, _, _, _, _, _, rfl, rfl, Or.inl ⟨decide_eq_true h59, _, addC d kd (tkv x n p - 48) (tkv x n (tke x n p) - 48) 4294967287, by rw [hrs]; unfold rdS; dsimp only; rw [if_pos h59], by omega, rfl, by rw [addC_at _ _ _ _ _ 0 (by omega) (by omega) (by omega) (by omega) (by omega)], by unfold addC; rw [uN_s], by rw [addC_at _ _ _ _ _ 2 (by omega) (by omega) (by omega) (by omega) (by omega)], RN_addC hRN (by omega) (by omega)⟩⟩ else ⟨_, _, _, _, _, _, _, _, _, _, _, _, rfl, rfl, Or.inr ⟨decide_eq_false h59, _, by rw [hrs]; unfold rdS; dsimp only; rw [if_neg h59], by omega, rfl⟩⟩)
              · refine j_aload_n (pc' := 71) C dX2_readContact_70 rfl 3 rfl ?_
                refine j_iconst (v := (nI 0)) (pc' := 72) C dX2_readContact_71 rfl (by decide +kernel) ?_
                refine j_iconst (v := (nI 3)) (pc' := 73) C dX2_readContact_72 rfl (by decide +kernel) ?_
                refine j_cVi (As := [.int (nI 0), .int (nI 3)]) (wr := [(aD, .inr (1, [.int (nI (d 0)), .int (nI (d 1)), .int (nI (d 2)), .ref aDk, .ref aDf, .ref aDs, .ref aDb, .ref aDl])), (aDk, .inl (cyI, 9, .inl (nA dkd))), (aDf, .inl (cyI, 9, .inl (nA dfi))), (aDs, .inl (cyI, 9, .inl (nA dse))), (aDb, .inl (cyI, 9, .inl (nA dsb))), (aDl, .inl (cyI, 3, .inl (nA dld)))]) (pc' := 76) C (c_X2_readNumber (aR := aR) (aD := aD) (aX := aX) (rt := (tki (tkv x n (tke x n p)))) (rp := (nI (skp x n (tke x n p)))) (x := x) (n := n) (p := tke x n (tke x n p)) (lo := 0) (hi := 3) (hn := by first | assumption | omega) (hx := by first | assumption | omega) (hp := by first | assumption | omega) (hlo := by first | assumption | omega) (hhi := by first | assumption | omega)) Y_X2_readNumber (ml_X2_56) [0, 1] [2, 3, 4, 5, 6, 7] rfl rfl rfl rfl (by decide) rfl rfl rfl dX2_readContact_73 rfl rfl rfl (Nat.le_of_ble_eq_true rfl) ⟨Nat.le_of_ble_eq_true rfl, Nat.le_of_ble_eq_true rfl⟩ ⟨Nat.le_of_ble_eq_true rfl, Nat.le_of_ble_eq_true rfl⟩ ⟨rfl, rfl⟩ (fun r5 w1 hQ => ?_)
                obtain ⟨rfl, hF73⟩ := hQ
                refine j_perm [(aR, .inr (2, [.ref aD, .int (nI n), .ref aX, .int (nI (tke x n (tke x n (tke x n p)))), .int (tki (tkv x n (tke x n (tke x n p)))), .int (nI (skp x n (tke x n (tke x n p))))])), (aX, .inl (cyI, 100, .inl (nA x))), (aD, .inr (1, [.int (nI (d 0)), .int (nI (d 1)), .int (nI (d 2)), .ref aDk, .ref aDf, .ref aDs, .ref aDb, .ref aDl])), (aDk, .inl (cyI, 9, .inl (nA dkd))), (aDf, .inl (cyI, 9, .inl (nA dfi))), (aDs, .inl (cyI, 9, .inl (nA dse))), (aDb, .inl (cyI, 9, .inl (nA dsb))), (aDl, .inl (cyI, 3, .inl (nA dld)))] [6, 7, 0, 1, 2, 3, 4, 5] rfl rfl (by decide) ?_
                rcases hF73 with ⟨hk3, rfl⟩ | ⟨hk3, rfl⟩
                · have whk3 := okN_t hk3
                  refine j_istore (pc' := 78) C [(4, .int (nI (tkv x n (tke x n (tke x n p)) - 48))), (3, .int (nI (tkv x n (tke x n p) - 48))), (2, .int (nI (tkv x n p - 48))), (0, .ref aR), (1, .int (nI kd))] dX2_readContact_76 rfl (by decide) rfl ?_
                  refine j_iload (pc' := 80) C dX2_readContact_78 rfl 0 rfl ?_
                  refine j_if_ge (pc' := 83) C 85 dX2_readContact_80 (by decide) rfl (fun c80 => ?_) (fun c80 => ?_)
                  · refine j_aload_n (pc' := 86) C dX2_readContact_85 rfl 3 rfl ?_
                    refine j_get (v := .ref aD) (pc' := 89) C KX2 0 0 rfl (by decide) fl_X2_12 rfl rfl dX2_readContact_86 rfl ?_
                    refine j_iload_n (pc' := 90) C dX2_readContact_89 rfl 4 rfl ?_
                    refine j_iload_n (pc' := 91) C dX2_readContact_90 rfl 2 rfl ?_
                    refine j_iload_n (pc' := 92) C dX2_readContact_91 rfl 1 rfl ?_
                    refine j_iload (pc' := 94) C dX2_readContact_92 rfl 0 rfl ?_
                    refine j_cVv (As := [.int (nI kd), .int (nI (tkv x n p - 48)), .int (nI (tkv x n (tke x n p) - 48)), .int (nI (tkv x n (tke x n (tke x n p)) - 48))]) (wr := [(aR, .inr (2, [.ref aD, .int (nI n), .ref aX, .int (nI (tke x n (tke x n (tke x n p)))), .int (tki (tkv x n (tke x n (tke x n p)))), .int (nI (skp x n (tke x n (tke x n p))))])), (aX, .inl (cyI, 100, .inl (nA x))), (aDl, .inl (cyI, 3, .inl (nA dld)))]) (pc' := 97) C (c_X1_addContact (aD := aD) (d := d) (aDk := aDk) (aDf := aDf) (aDs := aDs) (aDb := aDb) (aDl := aDl) (dkd := dkd) (dfi := dfi) (dse := dse) (dsb := dsb) (kd := kd) (u := tkv x n p - 48) (v := tkv x n (tke x n p) - 48) (b := tkv x n (tke x n (tke x n p)) - 48) (hc := by first | assumption | omega)) Y_X1_addContact (ml_X2_69) [2, 3, 4, 5, 6] [0, 1, 7] rfl rfl rfl rfl (by decide) rfl rfl rfl dX2_readContact_94 rfl rfl rfl (Nat.le_of_ble_eq_true rfl) ⟨Nat.le_of_ble_eq_true rfl, Nat.le_of_ble_eq_true rfl⟩ ⟨Nat.le_of_ble_eq_true rfl, Nat.le_of_ble_eq_true rfl⟩ ⟨rfl, rfl⟩ (fun w1 hQ => ?_)
                    obtain rfl := hQ
                    refine j_perm [(aR, .inr (2, [.ref aD, .int (nI n), .ref aX, .int (nI (tke x n (tke x n (tke x n p)))), .int (tki (tkv x n (tke x n (tke x n p)))), .int (nI (skp x n (tke x n (tke x n p))))])), (aX, .inl (cyI, 100, .inl (nA x))), (aD, .inr (1, [.int (nI (d 0)), .int (nI (d 1 + 1)), .int (nI (d 2)), .ref aDk, .ref aDf, .ref aDs, .ref aDb, .ref aDl])), (aDk, .inl (cyI, 9, .inl (nA (uN dkd (d 1) kd)))), (aDf, .inl (cyI, 9, .inl (nA (uN dfi (d 1) (tkv x n p - 48))))), (aDs, .inl (cyI, 9, .inl (nA (uN dse (d 1) (tkv x n (tke x n p) - 48))))), (aDb, .inl (cyI, 9, .inl (nA (uN dsb (d 1) (tkv x n (tke x n (tke x n p)) - 48))))), (aDl, .inl (cyI, 3, .inl (nA dld)))] [0, 1, 3, 4, 5, 6, 7, 2] rfl rfl (by decide) ?_
                    refine j_aload_n (pc' := 98) C dX2_readContact_97 rfl 3 rfl ?_
                    refine j_cVi (As := []) (wr := [(aD, .inr (1, [.int (nI (d 0)), .int (nI (d 1 + 1)), .int (nI (d 2)), .ref aDk, .ref aDf, .ref aDs, .ref aDb, .ref aDl])), (aDk, .inl (cyI, 9, .inl (nA (uN dkd (d 1) kd)))), (aDf, .inl (cyI, 9, .inl (nA (uN dfi (d 1) (tkv x n p - 48))))), (aDs, .inl (cyI, 9, .inl (nA (uN dse (d 1) (tkv x n (tke x n p) - 48))))), (aDb, .inl (cyI, 9, .inl (nA (uN dsb (d 1) (tkv x n (tke x n (tke x n p)) - 48))))), (aDl, .inl (cyI, 3, .inl (nA dld)))]) (pc' := 101) C (c_X2_readSemicolon (aR := aR) (aD := aD) (aX := aX) (rt := (tki (tkv x n (tke x n (tke x n p))))) (rp := (nI (skp x n (tke x n (tke x n p))))) (x := x) (n := n) (p := tke x n (tke x n (tke x n p))) (hn := by first | assumption | omega) (hx := by first | assumption | omega) (hp := by first | assumption | omega)) Y_X2_readSemicolon (ml_X2_63) [0, 1] [2, 3, 4, 5, 6, 7] rfl rfl rfl rfl (by decide) rfl rfl rfl dX2_readContact_98 rfl rfl rfl (Nat.le_of_ble_eq_true rfl) ⟨Nat.le_of_ble_eq_true rfl, Nat.le_of_ble_eq_true rfl⟩ ⟨Nat.le_of_ble_eq_true rfl, Nat.le_of_ble_eq_true rfl⟩ ⟨rfl, rfl⟩ (fun r7 w1 hQ => ?_)
                    obtain ⟨rfl, rfl⟩ := hQ
                    refine j_perm [(aR, .inr (2, [.ref aD, .int (nI n), .ref aX, .int (nI (tke x n (tke x n (tke x n (tke x n p))))), .int (tki (tkv x n (tke x n (tke x n (tke x n p))))), .int (nI (skp x n (tke x n (tke x n (tke x n p)))))])), (aX, .inl (cyI, 100, .inl (nA x))), (aD, .inr (1, [.int (nI (d 0)), .int (nI (d 1 + 1)), .int (nI (d 2)), .ref aDk, .ref aDf, .ref aDs, .ref aDb, .ref aDl])), (aDk, .inl (cyI, 9, .inl (nA (uN dkd (d 1) kd)))), (aDf, .inl (cyI, 9, .inl (nA (uN dfi (d 1) (tkv x n p - 48))))), (aDs, .inl (cyI, 9, .inl (nA (uN dse (d 1) (tkv x n (tke x n p) - 48))))), (aDb, .inl (cyI, 9, .inl (nA (uN dsb (d 1) (tkv x n (tke x n (tke x n p)) - 48))))), (aDl, .inl (cyI, 3, .inl (nA dld)))] [6, 7, 0, 1, 2, 3, 4, 5] rfl rfl (by decide) ?_
                    have hrs : rdC x n kd p d = .inr (tke x n (tke x n (tke x n p)), addC d kd (tkv x n p - 48) (tkv x n (tke x n p) - 48) (tkv x n (tke x n (tke x n p)) - 48)) := by unfold rdC; rw [if_neg (by rw [hk1]; decide), if_neg (by rw [hk2, decide_eq_true (show tkv x n (tke x n p) ≠ tkv x n p by omega)]; decide), if_pos (by omega), if_neg (by rw [hk3]; decide)]
                    have hgs := tke_ge x (n := n) (p := tke x n (tke x n (tke x n p))) (by omega)
                    have hgk := skp_ge x (n := n) (p := tke x n (tke x n (tke x n p))) (by omega)
                    exact j_iret C hr hk hA dX2_readContact_101 (nrw_bI _) (if h59 : tkv x n (tke x n (tke x n (tke x n p))) = 59 then ⟨_, _, _, _, _, _, _, _, _, _, _, _, rfl, rfl, Or.inl ⟨decide_eq_true h59, _, addC d kd (tkv x n p - 48) (tkv x n (tke x n p) - 48) (tkv x n (tke x n (tke x n p)) - 48), by rw [hrs]; unfold rdS; dsimp only; rw [if_pos h59], by omega, rfl, by rw [addC_at _ _ _ _ _ 0 (by omega) (by omega) (by omega) (by omega) (by omega)], by unfold addC; rw [uN_s], by rw [addC_at _ _ _ _ _ 2 (by omega) (by omega) (by omega) (by omega) (by omega)], RN_addC hRN (by omega) (by omega)⟩⟩ else ⟨_, _, _, _, _, _, _, _, _, _, _, _, rfl, rfl, Or.inr ⟨decide_eq_false h59, _, by rw [hrs]; unfold rdS; dsimp only; rw [if_neg h59], by omega, rfl⟩⟩)
                  · exact absurd c80 (nI_neg_no (by omega))
                · refine j_istore (pc' := 78) C [(4, .int (-9)), (3, .int (nI (tkv x n (tke x n p) - 48))), (2, .int (nI (tkv x n p - 48))), (0, .ref aR), (1, .int (nI kd))] dX2_readContact_76 rfl (by decide) rfl ?_
                  refine j_iload (pc' := 80) C dX2_readContact_78 rfl 0 rfl ?_
                  refine j_if_ge (pc' := 83) C 85 dX2_readContact_80 (by decide) rfl (fun c80 => ?_) (fun c80 => ?_)
                  · exact absurd c80 (by decide +kernel)
                  · refine j_iconst (v := (nI 0)) (pc' := 84) C dX2_readContact_83 rfl (by decide +kernel) ?_
                    refine j_top (bI false) (by decide +kernel) ?_
                    exact j_iret C hr hk hA dX2_readContact_84 (nrw_bI _) (⟨_, _, _, _, _, _, _, _, _, _, _, _, rfl, rfl, Or.inr ⟨rfl, _, by unfold rdC; rw [if_neg (by rw [hk1]; decide), if_neg (by rw [hk2, decide_eq_true (show tkv x n (tke x n p) ≠ tkv x n p by omega)]; decide), if_pos (by omega), if_pos hk3]; rfl, (skp_ge x (by omega)).2, rfl⟩⟩)
            · refine j_iconst (v := (nI 0)) (pc' := 60) C dX2_readContact_59 rfl (by decide +kernel) ?_
              refine j_top (bI false) (by decide +kernel) ?_
              exact j_iret C hr hk hA dX2_readContact_60 (nrw_bI _) (⟨_, _, _, _, _, _, _, _, _, _, _, _, rfl, rfl, Or.inr ⟨rfl, _, by unfold rdC; rw [if_neg (by rw [hk1]; decide), if_pos (by rw [hk2, decide_eq_false (show ¬ tkv x n (tke x n p) ≠ tkv x n p by omega)]; rfl)]; rfl, (skp_ge x (by omega)).2, rfl⟩⟩)
        · refine j_istore_n (pc' := 50) C [(3, .int (-9)), (2, .int (nI (tkv x n p - 48))), (0, .ref aR), (1, .int (nI kd))] dX2_readContact_49 rfl (by decide) rfl ?_
          refine j_iload_n (pc' := 51) C dX2_readContact_50 rfl 0 rfl ?_
          refine j_if_lt (pc' := 54) C 59 dX2_readContact_51 (by decide) rfl (fun c51 => ?_) (fun c51 => ?_)
          · refine j_iconst (v := (nI 0)) (pc' := 60) C dX2_readContact_59 rfl (by decide +kernel) ?_
            refine j_top (bI false) (by decide +kernel) ?_
            exact j_iret C hr hk hA dX2_readContact_60 (nrw_bI _) (⟨_, _, _, _, _, _, _, _, _, _, _, _, rfl, rfl, Or.inr ⟨rfl, _, by unfold rdC; rw [if_neg (by rw [hk1]; decide), if_pos (by rw [hk2]; rfl)]; rfl, (skp_ge x (by omega)).2, rfl⟩⟩)
          · exact absurd c51 (by decide +kernel)
      · exact absurd c30 (nI_neg_no (by omega))
    · refine j_istore_n (pc' := 29) C [(2, .int (-9)), (0, .ref aR), (1, .int (nI kd))] dX2_readContact_28 rfl (by decide) rfl ?_
      refine j_iload_n (pc' := 30) C dX2_readContact_29 rfl 0 rfl ?_
      refine j_if_ge (pc' := 33) C 35 dX2_readContact_30 (by decide) rfl (fun c30 => ?_) (fun c30 => ?_)
      · exact absurd c30 (by decide +kernel)
      · refine j_iconst (v := (nI 0)) (pc' := 34) C dX2_readContact_33 rfl (by decide +kernel) ?_
        refine j_top (bI false) (by decide +kernel) ?_
        exact j_iret C hr hk hA dX2_readContact_34 (nrw_bI _) (⟨_, _, _, _, _, _, _, _, _, _, _, _, rfl, rfl, Or.inr ⟨rfl, _, by unfold rdC; rw [if_pos hk1]; rfl, (skp_ge x (by omega)).2, rfl⟩⟩)
  · exact absurd c9 (by omega)

set_option maxHeartbeats 4000000 in
set_option maxRecDepth 100000 in
theorem c_X2_readLoad_f {lch : Launch} {dG : va_G} {cyI cyZ cyO : ClassId} (aR : Nat) (aD : Nat) (aX : Nat) (rt : Int32) (x : Nat → Nat) (d : Nat → Nat) (aDk : Nat) (aDf : Nat) (aDs : Nat) (aDb : Nat) (aDl : Nat) (dkd : Nat → Nat) (dfi : Nat → Nat) (dse : Nat → Nat) (dsb : Nat → Nat) (dld : Nat → Nat) (n : Nat) (p : Nat) (pl : Nat) (hc : 3 ≤ d 2) (hT : WT d) : Ki lch yX2_readLoad cX2_readLoad 2 .boolean (rmk 4) dG (cyI, cyZ, cyO) [.ref aR] [(aR, .inr (2, [.ref aD, .int (nI n), .ref aX, .int (nI p), .int rt, .int (nI pl)])), (aX, .inl (cyI, 100, .inl (nA x))), (aD, .inr (1, [.int (nI (d 0)), .int (nI (d 1)), .int (nI (d 2)), .ref aDk, .ref aDf, .ref aDs, .ref aDb, .ref aDl])), (aDk, .inl (cyI, 9, .inl (nA dkd))), (aDf, .inl (cyI, 9, .inl (nA dfi))), (aDs, .inl (cyI, 9, .inl (nA dse))), (aDb, .inl (cyI, 9, .inl (nA dsb))), (aDl, .inl (cyI, 3, .inl (nA dld)))] (fun r w1 => w1 = [(aR, .inr (2, [.ref aD, .int (nI n), .ref aX, .int (nI p), .int rt, .int (nI pl)])), (aX, .inl (cyI, 100, .inl (nA x))), (aD, .inr (1, [.int (nI (d 0)), .int (nI (d 1)), .int (nI (d 2)), .ref aDk, .ref aDf, .ref aDs, .ref aDb, .ref aDl])), (aDk, .inl (cyI, 9, .inl (nA dkd))), (aDf, .inl (cyI, 9, .inl (nA dfi))), (aDs, .inl (cyI, 9, .inl (nA dse))), (aDb, .inl (cyI, 9, .inl (nA dsb))), (aDl, .inl (cyI, 3, .inl (nA dld)))] ∧ r = (bI false)) := by
  have h1 := hT.n
  refine Ki.of (own := RX2) rfl (by decide) (Nat.le_of_ble_eq_true rfl) (fun p0 e0 s0 m0 ar0 be0 me0 cd0 A0 C hr hk hnm hA => ?_)
  refine j_lsub [(0, .ref aR)] [0] rfl ?_
  refine j_aload_n (pc' := 1) C dX2_readLoad_0 rfl 0 rfl ?_
  refine j_get (v := .ref aD) (pc' := 4) C KX2 0 0 rfl (by decide) fl_X2_12 rfl rfl dX2_readLoad_1 rfl ?_
  refine j_get (v := .int (nI (d 2))) (pc' := 7) C KX1 2 2 rfl (by decide) fl_X2_73 rfl rfl dX2_readLoad_4 rfl ?_
  refine j_iconst (v := (nI 3)) (pc' := 8) C dX2_readLoad_7 rfl (by decide +kernel) ?_
  refine j_nc_lt (pc' := 11) C 13 dX2_readLoad_8 (by decide) rfl (by omega) (by omega) (fun c8 => ?_) (fun c8 => ?_)
  · exact absurd c8 (by omega)
  · refine j_iconst (v := (nI 0)) (pc' := 12) C dX2_readLoad_11 rfl (by decide +kernel) ?_
    refine j_top (bI false) (by decide +kernel) ?_
    exact j_iret C hr hk hA dX2_readLoad_12 (nrw_bI _) (⟨rfl, rfl⟩)

set_option maxHeartbeats 4000000 in
set_option maxRecDepth 100000 in
theorem c_X2_readLoad {lch : Launch} {dG : va_G} {cyI cyZ cyO : ClassId} (aR : Nat) (aD : Nat) (aX : Nat) (rt : Int32) (x : Nat → Nat) (d : Nat → Nat) (aDk : Nat) (aDf : Nat) (aDs : Nat) (aDb : Nat) (aDl : Nat) (dkd : Nat → Nat) (dfi : Nat → Nat) (dse : Nat → Nat) (dsb : Nat → Nat) (dld : Nat → Nat) (n : Nat) (p : Nat) (pl : Nat) (hn : n ≤ 100) (hx : ∀ i, i < n → x i < 256) (hp : p ≤ n) (hT : WT d) (hRN : RN d dkd dfi dse dsb dld) (hc : d 2 < 3) : Ki lch yX2_readLoad cX2_readLoad 2 .boolean (rmk 4) dG (cyI, cyZ, cyO) [.ref aR] [(aR, .inr (2, [.ref aD, .int (nI n), .ref aX, .int (nI p), .int rt, .int (nI pl)])), (aX, .inl (cyI, 100, .inl (nA x))), (aD, .inr (1, [.int (nI (d 0)), .int (nI (d 1)), .int (nI (d 2)), .ref aDk, .ref aDf, .ref aDs, .ref aDb, .ref aDl])), (aDk, .inl (cyI, 9, .inl (nA dkd))), (aDf, .inl (cyI, 9, .inl (nA dfi))), (aDs, .inl (cyI, 9, .inl (nA dse))), (aDb, .inl (cyI, 9, .inl (nA dsb))), (aDl, .inl (cyI, 3, .inl (nA dld)))] (fun r w1 => ∃ (at1 : Int32), ∃ (tk1 : Int32), ∃ (pl1 : Int32), ∃ (n0 : Nat), ∃ (n1 : Nat), ∃ (n2 : Nat), ∃ (k1 : Nat → Nat), ∃ (f1 : Nat → Nat), ∃ (s1 : Nat → Nat), ∃ (b1 : Nat → Nat), ∃ (l1 : Nat → Nat), ∃ (b : Bool), w1 = [(aR, .inr (2, [.ref aD, .int (nI n), .ref aX, .int at1, .int tk1, .int pl1])), (aX, .inl (cyI, 100, .inl (nA x))), (aD, .inr (1, [.int (nI n0), .int (nI n1), .int (nI n2), .ref aDk, .ref aDf, .ref aDs, .ref aDb, .ref aDl])), (aDk, .inl (cyI, 9, .inl (nA k1))), (aDf, .inl (cyI, 9, .inl (nA f1))), (aDs, .inl (cyI, 9, .inl (nA s1))), (aDb, .inl (cyI, 9, .inl (nA b1))), (aDl, .inl (cyI, 3, .inl (nA l1)))] ∧ r = (bI b) ∧ RG n (rdS x n (rdB x n 108 p d)) b at1 pl1 n0 n1 n2 k1 f1 s1 b1 l1) := by
  have h1 := hT.n
  have g1 := tke_ge x hp
  have g2 := tke_ge x g1.2
  have g3 := tke_ge x g2.2
  refine Ki.of (own := RX2) rfl (by decide) (Nat.le_of_ble_eq_true rfl) (fun p0 e0 s0 m0 ar0 be0 me0 cd0 A0 C hr hk hnm hA => ?_)
  refine j_lsub [(0, .ref aR)] [0] rfl ?_
  refine j_aload_n (pc' := 1) C dX2_readLoad_0 rfl 0 rfl ?_
  refine j_get (v := .ref aD) (pc' := 4) C KX2 0 0 rfl (by decide) fl_X2_12 rfl rfl dX2_readLoad_1 rfl ?_
  refine j_get (v := .int (nI (d 2))) (pc' := 7) C KX1 2 2 rfl (by decide) fl_X2_73 rfl rfl dX2_readLoad_4 rfl ?_
  refine j_iconst (v := (nI 3)) (pc' := 8) C dX2_readLoad_7 rfl (by decide +kernel) ?_
  refine j_nc_lt (pc' := 11) C 13 dX2_readLoad_8 (by decide) rfl (by omega) (by omega) (fun c8 => ?_) (fun c8 => ?_)
  · refine j_aload_n (pc' := 14) C dX2_readLoad_13 rfl 0 rfl ?_
    refine j_iconst (v := (nI 1)) (pc' := 15) C dX2_readLoad_14 rfl (by decide +kernel) ?_
    refine j_aload_n (pc' := 16) C dX2_readLoad_15 rfl 0 rfl ?_
    refine j_get (v := .ref aD) (pc' := 19) C KX2 0 0 rfl (by decide) fl_X2_12 rfl rfl dX2_readLoad_16 rfl ?_
    refine j_get (v := .int (nI (d 0))) (pc' := 22) C KX1 2 0 rfl (by decide) fl_X2_60 rfl rfl dX2_readLoad_19 rfl ?_
    refine j_iconst (v := (nI 1)) (pc' := 23) C dX2_readLoad_22 rfl (by decide +kernel) ?_
    refine j_isub (v := (nI ((d 0) - 1))) (pc' := 24) C dX2_readLoad_23 rfl (pk_sub (by omega)) ?_
    refine j_cVi (As := [.int (nI 1), .int (nI ((d 0) - 1))]) (wr := [(aD, .inr (1, [.int (nI (d 0)), .int (nI (d 1)), .int (nI (d 2)), .ref aDk, .ref aDf, .ref aDs, .ref aDb, .ref aDl])), (aDk, .inl (cyI, 9, .inl (nA dkd))), (aDf, .inl (cyI, 9, .inl (nA dfi))), (aDs, .inl (cyI, 9, .inl (nA dse))), (aDb, .inl (cyI, 9, .inl (nA dsb))), (aDl, .inl (cyI, 3, .inl (nA dld)))]) (pc' := 27) C (c_X2_readNumber (aR := aR) (aD := aD) (aX := aX) (rt := rt) (rp := (nI pl)) (x := x) (n := n) (p := p) (lo := 1) (hi := (d 0) - 1) (hn := by first | assumption | omega) (hx := by first | assumption | omega) (hp := by first | assumption | omega) (hlo := by first | assumption | omega) (hhi := by first | assumption | omega)) Y_X2_readNumber (ml_X2_56) [0, 1] [2, 3, 4, 5, 6, 7] rfl rfl rfl rfl (by decide) rfl rfl rfl dX2_readLoad_24 rfl rfl rfl (Nat.le_of_ble_eq_true rfl) ⟨Nat.le_of_ble_eq_true rfl, Nat.le_of_ble_eq_true rfl⟩ ⟨Nat.le_of_ble_eq_true rfl, Nat.le_of_ble_eq_true rfl⟩ ⟨rfl, rfl⟩ (fun r1 w1 hQ => ?_)
    obtain ⟨rfl, hF24⟩ := hQ
    refine j_perm [(aR, .inr (2, [.ref aD, .int (nI n), .ref aX, .int (nI (tke x n p)), .int (tki (tkv x n p)), .int (nI (skp x n p))])), (aX, .inl (cyI, 100, .inl (nA x))), (aD, .inr (1, [.int (nI (d 0)), .int (nI (d 1)), .int (nI (d 2)), .ref aDk, .ref aDf, .ref aDs, .ref aDb, .ref aDl])), (aDk, .inl (cyI, 9, .inl (nA dkd))), (aDf, .inl (cyI, 9, .inl (nA dfi))), (aDs, .inl (cyI, 9, .inl (nA dse))), (aDb, .inl (cyI, 9, .inl (nA dsb))), (aDl, .inl (cyI, 3, .inl (nA dld)))] [6, 7, 0, 1, 2, 3, 4, 5] rfl rfl (by decide) ?_
    rcases hF24 with ⟨hk1, rfl⟩ | ⟨hk1, rfl⟩
    · have whk1 := okN_t hk1
      refine j_istore_n (pc' := 28) C [(1, .int (nI (tkv x n p - 48))), (0, .ref aR)] dX2_readLoad_27 rfl (by decide) rfl ?_
      refine j_iload_n (pc' := 29) C dX2_readLoad_28 rfl 0 rfl ?_
      refine j_if_lt (pc' := 32) C 43 dX2_readLoad_29 (by decide) rfl (fun c29 => ?_) (fun c29 => ?_)
      · exact absurd c29 (nI_pos (by omega))
      · refine j_aload_n (pc' := 33) C dX2_readLoad_32 rfl 1 rfl ?_
        refine j_get (v := .ref aD) (pc' := 36) C KX2 0 0 rfl (by decide) fl_X2_12 rfl rfl dX2_readLoad_33 rfl ?_
        refine j_iload_n (pc' := 37) C dX2_readLoad_36 rfl 0 rfl ?_
        refine j_cVi (As := [.int (nI (tkv x n p - 48))]) (wr := [(aR, .inr (2, [.ref aD, .int (nI n), .ref aX, .int (nI (tke x n p)), .int (tki (tkv x n p)), .int (nI (skp x n p))])), (aX, .inl (cyI, 100, .inl (nA x))), (aDk, .inl (cyI, 9, .inl (nA dkd))), (aDf, .inl (cyI, 9, .inl (nA dfi))), (aDs, .inl (cyI, 9, .inl (nA dse))), (aDb, .inl (cyI, 9, .inl (nA dsb)))]) (pc' := 40) C (c_X1_hasLoadAt (aD := aD) (d := d) (aDk := aDk) (aDf := aDf) (aDs := aDs) (aDb := aDb) (aDl := aDl) (dld := dld) (u := tkv x n p - 48) (hc := by first | assumption | omega) (hu := by first | assumption | omega) (hv := fun i hi => by rw [hRN.2 i hi]; have := hT.l hi; omega)) Y_X1_hasLoadAt (ml_X2_76) [2, 7] [0, 1, 3, 4, 5, 6] rfl rfl rfl rfl (by decide) rfl rfl rfl dX2_readLoad_37 rfl rfl rfl (Nat.le_of_ble_eq_true rfl) ⟨Nat.le_of_ble_eq_true rfl, Nat.le_of_ble_eq_true rfl⟩ ⟨Nat.le_of_ble_eq_true rfl, Nat.le_of_ble_eq_true rfl⟩ ⟨rfl, rfl⟩ (fun r2 w1 hQ => ?_)
        obtain ⟨rfl, rfl⟩ := hQ
        refine j_perm [(aR, .inr (2, [.ref aD, .int (nI n), .ref aX, .int (nI (tke x n p)), .int (tki (tkv x n p)), .int (nI (skp x n p))])), (aX, .inl (cyI, 100, .inl (nA x))), (aD, .inr (1, [.int (nI (d 0)), .int (nI (d 1)), .int (nI (d 2)), .ref aDk, .ref aDf, .ref aDs, .ref aDb, .ref aDl])), (aDk, .inl (cyI, 9, .inl (nA dkd))), (aDf, .inl (cyI, 9, .inl (nA dfi))), (aDs, .inl (cyI, 9, .inl (nA dse))), (aDb, .inl (cyI, 9, .inl (nA dsb))), (aDl, .inl (cyI, 3, .inl (nA dld)))] [0, 1, 6, 2, 3, 4, 5, 7] rfl rfl (by decide) ?_
        refine j_b_eq (pc' := 43) C 45 dX2_readLoad_40 (by decide) rfl (fun c40 => ?_) (fun c40 => ?_)
        · have hok0 : okN x n p 0 (d 0 - 1) = true := by unfold okN; rw [whk1.1, decide_eq_true (by omega)]; rfl
          refine j_aload_n (pc' := 46) C dX2_readLoad_45 rfl 1 rfl ?_
          refine j_get (v := .ref aD) (pc' := 49) C KX2 0 0 rfl (by decide) fl_X2_12 rfl rfl dX2_readLoad_46 rfl ?_
          refine j_iload_n (pc' := 50) C dX2_readLoad_49 rfl 0 rfl ?_
          refine j_cVv (As := [.int (nI (tkv x n p - 48))]) (wr := [(aR, .inr (2, [.ref aD, .int (nI n), .ref aX, .int (nI (tke x n p)), .int (tki (tkv x n p)), .int (nI (skp x n p))])), (aX, .inl (cyI, 100, .inl (nA x))), (aDk, .inl (cyI, 9, .inl (nA dkd))), (aDf, .inl (cyI, 9, .inl (nA dfi))), (aDs, .inl (cyI, 9, .inl (nA dse))), (aDb, .inl (cyI, 9, .inl (nA dsb)))]) (pc' := 53) C (c_X1_addLoad (aD := aD) (d := d) (aDk := aDk) (aDf := aDf) (aDs := aDs) (aDb := aDb) (aDl := aDl) (dld := dld) (u := tkv x n p - 48) (hc := by first | assumption | omega)) Y_X1_addLoad (ml_X2_79) [2, 7] [0, 1, 3, 4, 5, 6] rfl rfl rfl rfl (by decide) rfl rfl rfl dX2_readLoad_50 rfl rfl rfl (Nat.le_of_ble_eq_true rfl) ⟨Nat.le_of_ble_eq_true rfl, Nat.le_of_ble_eq_true rfl⟩ ⟨Nat.le_of_ble_eq_true rfl, Nat.le_of_ble_eq_true rfl⟩ ⟨rfl, rfl⟩ (fun w1 hQ => ?_)
          obtain rfl := hQ
          refine j_perm [(aR, .inr (2, [.ref aD, .int (nI n), .ref aX, .int (nI (tke x n p)), .int (tki (tkv x n p)), .int (nI (skp x n p))])), (aX, .inl (cyI, 100, .inl (nA x))), (aD, .inr (1, [.int (nI (d 0)), .int (nI (d 1)), .int (nI (d 2 + 1)), .ref aDk, .ref aDf, .ref aDs, .ref aDb, .ref aDl])), (aDk, .inl (cyI, 9, .inl (nA dkd))), (aDf, .inl (cyI, 9, .inl (nA dfi))), (aDs, .inl (cyI, 9, .inl (nA dse))), (aDb, .inl (cyI, 9, .inl (nA dsb))), (aDl, .inl (cyI, 3, .inl (nA (uN dld (d 2) (tkv x n p - 48)))))] [0, 1, 6, 2, 3, 4, 5, 7] rfl rfl (by decide) ?_
          refine j_aload_n (pc' := 54) C dX2_readLoad_53 rfl 1 rfl ?_
          refine j_cVi (As := []) (wr := [(aD, .inr (1, [.int (nI (d 0)), .int (nI (d 1)), .int (nI (d 2 + 1)), .ref aDk, .ref aDf, .ref aDs, .ref aDb, .ref aDl])), (aDk, .inl (cyI, 9, .inl (nA dkd))), (aDf, .inl (cyI, 9, .inl (nA dfi))), (aDs, .inl (cyI, 9, .inl (nA dse))), (aDb, .inl (cyI, 9, .inl (nA dsb))), (aDl, .inl (cyI, 3, .inl (nA (uN dld (d 2) (tkv x n p - 48)))))]) (pc' := 57) C (c_X2_readSemicolon (aR := aR) (aD := aD) (aX := aX) (rt := (tki (tkv x n p))) (rp := (nI (skp x n p))) (x := x) (n := n) (p := tke x n p) (hn := by first | assumption | omega) (hx := by first | assumption | omega) (hp := by first | assumption | omega)) Y_X2_readSemicolon (ml_X2_63) [0, 1] [2, 3, 4, 5, 6, 7] rfl rfl rfl rfl (by decide) rfl rfl rfl dX2_readLoad_54 rfl rfl rfl (Nat.le_of_ble_eq_true rfl) ⟨Nat.le_of_ble_eq_true rfl, Nat.le_of_ble_eq_true rfl⟩ ⟨Nat.le_of_ble_eq_true rfl, Nat.le_of_ble_eq_true rfl⟩ ⟨rfl, rfl⟩ (fun r4 w1 hQ => ?_)
          obtain ⟨rfl, rfl⟩ := hQ
          refine j_perm [(aR, .inr (2, [.ref aD, .int (nI n), .ref aX, .int (nI (tke x n (tke x n p))), .int (tki (tkv x n (tke x n p))), .int (nI (skp x n (tke x n p)))])), (aX, .inl (cyI, 100, .inl (nA x))), (aD, .inr (1, [.int (nI (d 0)), .int (nI (d 1)), .int (nI (d 2 + 1)), .ref aDk, .ref aDf, .ref aDs, .ref aDb, .ref aDl])), (aDk, .inl (cyI, 9, .inl (nA dkd))), (aDf, .inl (cyI, 9, .inl (nA dfi))), (aDs, .inl (cyI, 9, .inl (nA dse))), (aDb, .inl (cyI, 9, .inl (nA dsb))), (aDl, .inl (cyI, 3, .inl (nA (uN dld (d 2) (tkv x n p - 48)))))] [6, 7, 0, 1, 2, 3, 4, 5] rfl rfl (by decide) ?_
          have hrs : rdB x n 108 p d = .inr (tke x n p, addL d (tkv x n p - 48)) := by unfold rdB; rw [if_neg (by decide), if_pos rfl, if_neg (by rw [hok0, fr_ex (ld := dld) (by omega) hRN.2, c40]; decide)]
          have hgs := tke_ge x (n := n) (p := tke x n p) (by omega)
          have hgk := skp_ge x (n := n) (p := tke x n p) (by omega)
          exact j_iret C hr hk hA dX2_readLoad_57 (nrw_bI _) (if h59 : tkv x n (tke x n p) = 59 then ⟨_, _, _, _, _, _, _, _, _, _, _, _, rfl, rfl, Or.inl ⟨decide_eq_true h59, _, addL d (tkv x n p - 48), by rw [hrs]; unfold rdS; dsimp only; rw [if_pos h59], by omega, rfl, by unfold addL; rw [uN_n (by omega), uN_n (by omega)], by unfold addL; rw [uN_n (by omega), uN_n (by omega)], by unfold addL; rw [uN_s], RN_addL hRN (by omega) (by omega)⟩⟩ else ⟨_, _, _, _, _, _, _, _, _, _, _, _, rfl, rfl, Or.inr ⟨decide_eq_false h59, _, by rw [hrs]; unfold rdS; dsimp only; rw [if_neg h59], by omega, rfl⟩⟩)
        · have hok0 : okN x n p 0 (d 0 - 1) = true := by unfold okN; rw [whk1.1, decide_eq_true (by omega)]; rfl
          refine j_iconst (v := (nI 0)) (pc' := 44) C dX2_readLoad_43 rfl (by decide +kernel) ?_
          refine j_top (bI false) (by decide +kernel) ?_
          exact j_iret C hr hk hA dX2_readLoad_44 (nrw_bI _) (⟨_, _, _, _, _, _, _, _, _, _, _, _, rfl, rfl, Or.inr ⟨rfl, _, by unfold rdB; rw [if_neg (by decide), if_pos rfl, if_pos (by rw [hok0, fr_ex (ld := dld) (by omega) hRN.2, c40]; rfl)]; rfl, (skp_ge x (by omega)).2, rfl⟩⟩)
    · refine j_istore_n (pc' := 28) C [(1, .int (-9)), (0, .ref aR)] dX2_readLoad_27 rfl (by decide) rfl ?_
      refine j_iload_n (pc' := 29) C dX2_readLoad_28 rfl 0 rfl ?_
      refine j_if_lt (pc' := 32) C 43 dX2_readLoad_29 (by decide) rfl (fun c29 => ?_) (fun c29 => ?_)
      · refine j_iconst (v := (nI 0)) (pc' := 44) C dX2_readLoad_43 rfl (by decide +kernel) ?_
        refine j_top (bI false) (by decide +kernel) ?_
        exact j_iret C hr hk hA dX2_readLoad_44 (nrw_bI _) (⟨_, _, _, _, _, _, _, _, _, _, _, _, rfl, rfl, Or.inr ⟨rfl, _, by unfold rdB; rw [if_neg (by decide), if_pos rfl, if_pos (okl_f hk1)]; rfl, (skp_ge x (by omega)).2, rfl⟩⟩)
      · exact absurd c29 (by decide +kernel)
  · exact absurd c8 (by omega)
