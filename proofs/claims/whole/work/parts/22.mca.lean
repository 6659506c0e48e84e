set_option maxHeartbeats 4000000 in
set_option maxRecDepth 100000 in
theorem c_X8_ones {lch : Launch} {dG : va_G} {cyI cyZ cyO : ClassId} (a : Nat) (ha : a < 512) : Ki lch yX8_ones cX8_ones 3 .int (rmk 1) dG (cyI, cyZ, cyO) [.int (nI a)] [] (fun r w1 => w1 = [] ∧ r = (nI (pcN a))) := by
  refine Ki.of (own := RX8) rfl (by decide) (Nat.le_of_ble_eq_true rfl) (fun p0 e0 s0 m0 ar0 be0 me0 cd0 A0 C hr hk hnm hA => ?_)
  refine j_lsub [(0, .int (nI a))] [0] rfl ?_
  refine j_iconst (v := (nI 0)) (pc' := 1) C dX8_ones_0 rfl (by decide +kernel) ?_
  refine j_istore_n (pc' := 2) C [(1, .int (nI 0)), (0, .int (nI a))] dX8_ones_1 rfl (by decide) rfl ?_
  refine j_iload_n (pc' := 3) C dX8_ones_2 rfl 1 rfl ?_
  refine j_istore_n (pc' := 4) C [(2, .int (nI a)), (1, .int (nI 0)), (0, .int (nI a))] dX8_ones_3 rfl (by decide) rfl ?_
  refine j_lsub [(0, .int (nI a)), (1, .int (nI 0)), (2, .int (nI a))] [2, 1, 0] rfl ?_
  refine j_loop2 (fun (n : Nat) (y : Nat) => []) (fun (n : Nat) (y : Nat) => [(0, .int (nI a)), (1, .int (nI n)), (2, .int (nI y))]) (fun (n : Nat) (y : Nat) => []) (fun (n : Nat) (y : Nat) => y < 512 ∧ n + pcN y = pcN a) (fun (n : Nat) (y : Nat) => y) ?_ 0 a ?_
  · intro n y hI4 ih4
    obtain ⟨hy, hn⟩ := hI4
    refine j_iload_n (pc' := 5) C dX8_ones_4 rfl 2 rfl ?_
    refine j_nz_eq (pc' := 8) C 20 dX8_ones_5 (by decide) rfl (by omega) (fun c5 => ?_) (fun c5 => ?_)
    · refine j_iload_n (pc' := 21) C dX8_ones_20 rfl 1 rfl ?_
      exact j_iret C hr hk hA dX8_ones_21 (rfl) (⟨rfl, by rw [c5, pc_0, Nat.add_zero] at hn; rw [hn]⟩)
    · refine j_iinc (v := (nI (n + 1))) (pc' := 11) C [(1, .int (nI (n + 1))), (0, .int (nI a)), (2, .int (nI y))] dX8_ones_8 rfl 1 rfl (inc_n n 1) (by decide) rfl ?_
      refine j_iload_n (pc' := 12) C dX8_ones_11 rfl 2 rfl ?_
      refine j_iload_n (pc' := 13) C dX8_ones_12 rfl 2 rfl ?_
      refine j_iconst (v := (nI 1)) (pc' := 14) C dX8_ones_13 rfl (by decide +kernel) ?_
      refine j_isub (v := (nI (y - 1))) (pc' := 15) C dX8_ones_14 rfl (pk_sub (by omega)) ?_
      refine j_iand (v := (nI (y &&& (y - 1)))) (pc' := 16) C dX8_ones_15 rfl (fa_and y (y - 1)) ?_
      refine j_istore_n (pc' := 17) C [(2, .int (nI (y &&& (y - 1)))), (1, .int (nI (n + 1))), (0, .int (nI a))] dX8_ones_16 rfl (by decide) rfl ?_
      refine j_goto C 4 dX8_ones_17 (by decide) ?_
      refine j_lsub [(0, .int (nI a)), (1, .int (nI (n + 1))), (2, .int (nI (y &&& (y - 1))))] [2, 1, 0] rfl ?_
      exact ih4 (n + 1) (y &&& (y - 1)) (⟨by have := pc_step y hy c5; omega, by have := pc_step y hy c5; omega⟩) ((pc_step y hy c5).2)
  · exact ⟨ha, Nat.zero_add _⟩

set_option maxHeartbeats 4000000 in
set_option maxRecDepth 100000 in
theorem c_X8_parting {lch : Launch} {dG : va_G} {cyI cyZ cyO : ClassId} (a0 : Nat) (th : Int32) (aX : Nat) (ty : Int32) (sp : Int32) (tk : Int32) (pl : Int32) (va : Int32) (fa : Int32) (aT : Nat) (aD : Nat) (aS : Nat) (aU : Nat) (um : Int32) (aK : Nat) (aI : Nat) (aL : Nat) (aE : Nat) (aF : Nat) (sm : Int32) (aP : Nat) (aW : Nat) (sn : Int32) (aB : Nat) (aM : Nat) (t : Nat → Nat) (s : Nat → Nat) (l : Int32) (v : Int32) (hT : WT t) (hS : WS s) : Ki lch yX8_parting cX8_parting 5 .int (rmk 5) dG (cyI, cyZ, cyO) [.ref a0, .int l, .int v] [(a0, .inr (8, [.int th, .ref aX, .int ty, .int sp, .int tk, .int pl, .int va, .int fa, .ref aT, .ref aD, .ref aS, .ref aU, .int um, .ref aK, .ref aI, .ref aL, .ref aE, .ref aF, .int sm, .ref aP, .ref aW, .int sn, .ref aB, .ref aM])), (aT, .inl (cyI, 42, .inl (nA t))), (aS, .inl (cyI, 30, .inl (nA s)))] (fun r w1 => w1 = [(a0, .inr (8, [.int (nI 0), .ref aX, .int ty, .int sp, .int tk, .int pl, .int va, .int fa, .ref aT, .ref aD, .ref aS, .ref aU, .int um, .ref aK, .ref aI, .ref aL, .ref aE, .ref aF, .int sm, .ref aP, .ref aW, .int sn, .ref aB, .ref aM])), (aT, .inl (cyI, 42, .inl (nA t))), (aS, .inl (cyI, 30, .inl (nA s)))] ∧ r = (prQ t s l v)) := by
  have h1 := hT.n
  have h9 := p2_9 (n := t 1) (by omega)
  have h8 := Nat.two_pow_pos (t 1)
  refine Ki.of (own := RX8) rfl (by decide) (Nat.le_of_ble_eq_true rfl) (fun p0 e0 s0 m0 ar0 be0 me0 cd0 A0 C hr hk hnm hA => ?_)
  refine j_lsub [(0, .ref a0), (1, .int l), (2, .int v)] [0, 1, 2] rfl ?_
  refine j_aload_n (pc' := 1) C dX8_parting_0 rfl 0 rfl ?_
  refine j_iconst (v := (nI 0)) (pc' := 2) C dX8_parting_1 rfl (by decide +kernel) ?_
  refine j_put (pc' := 5) C [(a0, .inr (8, [.int (nI 0), .ref aX, .int ty, .int sp, .int tk, .int pl, .int va, .int fa, .ref aT, .ref aD, .ref aS, .ref aU, .int um, .ref aK, .ref aI, .ref aL, .ref aE, .ref aF, .int sm, .ref aP, .ref aW, .int sn, .ref aB, .ref aM])), (aT, .inl (cyI, 42, .inl (nA t))), (aS, .inl (cyI, 30, .inl (nA s)))] KX8 0 0 rfl (by decide) fl_X8_59 rfl rfl rfl rfl (Nat.le_of_ble_eq_true rfl) dX8_parting_2 rfl rfl ?_
  refine j_aload_n (pc' := 6) C dX8_parting_5 rfl 0 rfl ?_
  refine j_iload_n (pc' := 7) C dX8_parting_6 rfl 1 rfl ?_
  refine j_cVi (As := [.int l]) (wr := [(aS, .inl (cyI, 30, .inl (nA s)))]) (pc' := 10) C (c_X8_isLoad (a0 := a0) (th := (nI 0)) (aX := aX) (ty := ty) (sp := sp) (tk := tk) (pl := pl) (va := va) (fa := fa) (aT := aT) (aD := aD) (aS := aS) (aU := aU) (um := um) (aK := aK) (aI := aI) (aL := aL) (aE := aE) (aF := aF) (sm := sm) (aP := aP) (aW := aW) (sn := sn) (aB := aB) (aM := aM) (t := t) (v := l) (hT := by first | assumption | omega)) Y_X8_isLoad (ml_X8_150) [0, 1] [2] rfl rfl rfl rfl (by decide) rfl rfl rfl dX8_parting_7 rfl rfl rfl (Nat.le_of_ble_eq_true rfl) ⟨Nat.le_of_ble_eq_true rfl, Nat.le_of_ble_eq_true rfl⟩ ⟨Nat.le_of_ble_eq_true rfl, Nat.le_of_ble_eq_true rfl⟩ ⟨rfl, rfl⟩ (fun r1 w1 hQ => ?_)
  obtain ⟨rfl, rfl⟩ := hQ
  refine j_perm [(a0, .inr (8, [.int (nI 0), .ref aX, .int ty, .int sp, .int tk, .int pl, .int va, .int fa, .ref aT, .ref aD, .ref aS, .ref aU, .int um, .ref aK, .ref aI, .ref aL, .ref aE, .ref aF, .int sm, .ref aP, .ref aW, .int sn, .ref aB, .ref aM])), (aT, .inl (cyI, 42, .inl (nA t))), (aS, .inl (cyI, 30, .inl (nA s)))] [1, 2, 0] rfl rfl (by decide) ?_
  refine j_b_eq (pc' := 13) C 20 dX8_parting_10 (by decide) rfl (fun c10 => ?_) (fun c10 => ?_)
  · refine j_iconst (v := (-1)) (pc' := 21) C dX8_parting_20 rfl (by decide +kernel) ?_
    exact j_iret C hr hk hA dX8_parting_21 (rfl) (⟨rfl, by unfold prQ; rw [if_pos (by simp_all)]⟩)
  · obtain ⟨j, hj, rfl⟩ := inR_t c10 (by omega)
    refine j_iload_n (pc' := 14) C dX8_parting_13 rfl 2 rfl ?_
    refine j_cSi (As := [.int v]) (wr := [(a0, .inr (8, [.int (nI 0), .ref aX, .int ty, .int sp, .int tk, .int pl, .int va, .int fa, .ref aT, .ref aD, .ref aS, .ref aU, .int um, .ref aK, .ref aI, .ref aL, .ref aE, .ref aF, .int sm, .ref aP, .ref aW, .int sn, .ref aB, .ref aM])), (aT, .inl (cyI, 42, .inl (nA t))), (aS, .inl (cyI, 30, .inl (nA s)))]) (pc' := 17) C (c_X8_isState (v := v) ) Y_X8_isState (ml_X8_179) [] [0, 1, 2] rfl rfl rfl rfl (by decide) dX8_parting_14 rfl rfl rfl (Nat.le_of_ble_eq_true rfl) ⟨Nat.le_of_ble_eq_true rfl, Nat.le_of_ble_eq_true rfl⟩ ⟨Nat.le_of_ble_eq_true rfl, Nat.le_of_ble_eq_true rfl⟩ ⟨rfl, rfl⟩ (fun r2 w1 hQ => ?_)
    obtain ⟨rfl, rfl⟩ := hQ
    refine j_perm [(a0, .inr (8, [.int (nI 0), .ref aX, .int ty, .int sp, .int tk, .int pl, .int va, .int fa, .ref aT, .ref aD, .ref aS, .ref aU, .int um, .ref aK, .ref aI, .ref aL, .ref aE, .ref aF, .int sm, .ref aP, .ref aW, .int sn, .ref aB, .ref aM])), (aT, .inl (cyI, 42, .inl (nA t))), (aS, .inl (cyI, 30, .inl (nA s)))] [0, 1, 2] rfl rfl (by decide) ?_
    refine j_b_ne (pc' := 20) C 22 dX8_parting_17 (by decide) rfl (fun c17 => ?_) (fun c17 => ?_)
    · obtain ⟨q, hq, rfl⟩ := inR_t c17 (by omega)
      refine j_iconst (v := (nI 1)) (pc' := 23) C dX8_parting_22 rfl (by decide +kernel) ?_
      refine j_aload_n (pc' := 24) C dX8_parting_23 rfl 0 rfl ?_
      refine j_get (v := .ref aT) (pc' := 27) C KX8 0 8 rfl (by decide) fl_X8_13 rfl rfl dX8_parting_24 rfl ?_
      refine j_iconst (v := (nI 1)) (pc' := 28) C dX8_parting_27 rfl (by decide +kernel) ?_
      refine j_nald (pc' := 29) C 1 rfl (by omega) (by decide) dX8_parting_28 rfl ?_
      refine j_ishl (v := (nI (2 ^ (t 1)))) (pc' := 30) C dX8_parting_29 rfl (sh_1 (by omega)) ?_
      refine j_iconst (v := (nI 1)) (pc' := 31) C dX8_parting_30 rfl (by decide +kernel) ?_
      refine j_isub (v := (nI ((2 ^ (t 1)) - 1))) (pc' := 32) C dX8_parting_31 rfl (pk_sub (by omega)) ?_
      refine j_istore_n (pc' := 33) C [(3, .int (nI ((2 ^ (t 1)) - 1))), (0, .ref a0), (1, .int (nI j)), (2, .int (nI q))] dX8_parting_32 rfl (by decide) rfl ?_
      refine j_iload_n (pc' := 34) C dX8_parting_33 rfl 0 rfl ?_
      refine j_istore (pc' := 36) C [(4, .int (nI ((2 ^ (t 1)) - 1))), (3, .int (nI ((2 ^ (t 1)) - 1))), (0, .ref a0), (1, .int (nI j)), (2, .int (nI q))] dX8_parting_34 rfl (by decide) rfl ?_
      refine j_lsub [(0, .ref a0), (1, .int (nI j)), (2, .int (nI q)), (3, .int (nI ((2 ^ (t 1)) - 1))), (4, .int (nI ((2 ^ (t 1)) - 1)))] [2, 3, 4, 1, 0] rfl ?_
      refine j_loop3 (fun (m : Nat) (y : Nat) (sv : Int32) => [(a0, .inr (8, [.int (nI 0), .ref aX, .int ty, .int sp, .int tk, .int pl, .int va, .int fa, .ref aT, .ref aD, .ref aS, .ref aU, .int um, .ref aK, .ref aI, .ref aL, .ref aE, .ref aF, .int sm, .ref aP, .ref aW, .int sn, .ref aB, .ref aM])), (aT, .inl (cyI, 42, .inl (nA t))), (aS, .inl (cyI, 30, .inl (nA s)))]) (fun (m : Nat) (y : Nat) (sv : Int32) => [(0, .ref a0), (1, .int (nI j)), (2, .int (nI q)), (3, .int (nI y)), (4, .int sv)]) (fun (m : Nat) (y : Nat) (sv : Int32) => []) (fun (m : Nat) (y : Nat) (sv : Int32) => m ≤ 2 ^ t 1 ∧ sv = nI m + Int32.ofInt (-1) ∧ y = prD t s j q (2 ^ t 1 - m)) (fun (m : Nat) (y : Nat) (sv : Int32) => m) ?_ (2 ^ t 1) ((2 ^ (t 1)) - 1) (nI ((2 ^ (t 1)) - 1)) ?_
      · intro m y sv hI36 ih36
        obtain ⟨hm, hsv, hy⟩ := hI36
        have hy5 : y < 512 := by rw [hy]; exact Nat.lt_of_lt_of_le (prD_lt t s j q _) h9
        refine j_iload (pc' := 38) C dX8_parting_36 rfl 4 rfl ?_
        refine j_if_lt (pc' := 41) C 77 dX8_parting_38 (by decide) rfl (fun c38 => ?_) (fun c38 => ?_)
        · rw [hsv] at c38
          have hm0 := dn_0 (by omega) c38
          refine j_iload_n (pc' := 78) C dX8_parting_77 rfl 3 rfl ?_
          exact j_iret C hr hk hA dX8_parting_78 (rfl) (⟨rfl, by unfold prQ; rw [if_neg (by simp_all), nI_clamp (by omega), nI_clamp (by omega), hy, hm0]; rfl⟩)
        · rw [hsv] at c38
          have hm1 := dn_lt (by omega) c38
          rw [dec_n hm1] at hsv
          subst hsv
          refine j_iload (pc' := 43) C dX8_parting_41 rfl 4 rfl ?_
          refine j_cSi (As := [.int (nI (m - 1))]) (wr := [(a0, .inr (8, [.int (nI 0), .ref aX, .int ty, .int sp, .int tk, .int pl, .int va, .int fa, .ref aT, .ref aD, .ref aS, .ref aU, .int um, .ref aK, .ref aI, .ref aL, .ref aE, .ref aF, .int sm, .ref aP, .ref aW, .int sn, .ref aB, .ref aM])), (aT, .inl (cyI, 42, .inl (nA t))), (aS, .inl (cyI, 30, .inl (nA s)))]) (pc' := 46) C (c_X8_ones (a := m - 1) (ha := by first | assumption | omega)) Y_X8_ones (ml_X8_182) [] [0, 1, 2] rfl rfl rfl rfl (by decide) dX8_parting_43 rfl rfl rfl (Nat.le_of_ble_eq_true rfl) ⟨Nat.le_of_ble_eq_true rfl, Nat.le_of_ble_eq_true rfl⟩ ⟨Nat.le_of_ble_eq_true rfl, Nat.le_of_ble_eq_true rfl⟩ ⟨rfl, rfl⟩ (fun r3 w1 hQ => ?_)
          obtain ⟨rfl, rfl⟩ := hQ
          refine j_perm [(a0, .inr (8, [.int (nI 0), .ref aX, .int ty, .int sp, .int tk, .int pl, .int va, .int fa, .ref aT, .ref aD, .ref aS, .ref aU, .int um, .ref aK, .ref aI, .ref aL, .ref aE, .ref aF, .int sm, .ref aP, .ref aW, .int sn, .ref aB, .ref aM])), (aT, .inl (cyI, 42, .inl (nA t))), (aS, .inl (cyI, 30, .inl (nA s)))] [0, 1, 2] rfl rfl (by decide) ?_
          refine j_iload_n (pc' := 47) C dX8_parting_46 rfl 3 rfl ?_
          refine j_cSi (As := [.int (nI y)]) (wr := [(a0, .inr (8, [.int (nI 0), .ref aX, .int ty, .int sp, .int tk, .int pl, .int va, .int fa, .ref aT, .ref aD, .ref aS, .ref aU, .int um, .ref aK, .ref aI, .ref aL, .ref aE, .ref aF, .int sm, .ref aP, .ref aW, .int sn, .ref aB, .ref aM])), (aT, .inl (cyI, 42, .inl (nA t))), (aS, .inl (cyI, 30, .inl (nA s)))]) (pc' := 50) C (c_X8_ones (a := y) (ha := by first | assumption | omega)) Y_X8_ones (ml_X8_182) [] [0, 1, 2] rfl rfl rfl rfl (by decide) dX8_parting_47 rfl rfl rfl (Nat.le_of_ble_eq_true rfl) ⟨Nat.le_of_ble_eq_true rfl, Nat.le_of_ble_eq_true rfl⟩ ⟨Nat.le_of_ble_eq_true rfl, Nat.le_of_ble_eq_true rfl⟩ ⟨rfl, rfl⟩ (fun r4 w1 hQ => ?_)
          obtain ⟨rfl, rfl⟩ := hQ
          refine j_perm [(a0, .inr (8, [.int (nI 0), .ref aX, .int ty, .int sp, .int tk, .int pl, .int va, .int fa, .ref aT, .ref aD, .ref aS, .ref aU, .int um, .ref aK, .ref aI, .ref aL, .ref aE, .ref aF, .int sm, .ref aP, .ref aW, .int sn, .ref aB, .ref aM])), (aT, .inl (cyI, 42, .inl (nA t))), (aS, .inl (cyI, 30, .inl (nA s)))] [0, 1, 2] rfl rfl (by decide) ?_
          refine j_nc_gt (pc' := 53) C 69 dX8_parting_50 (by decide) rfl (Nat.lt_of_le_of_lt (pcF_le _ 9) (by decide)) (Nat.lt_of_le_of_lt (pcF_le _ 9) (by decide)) (fun c50 => ?_) (fun c50 => ?_)
          · refine j_iload_n (pc' := 70) C dX8_parting_69 rfl 3 rfl ?_
            refine j_istore_n (pc' := 71) C [(3, .int (nI y)), (0, .ref a0), (1, .int (nI j)), (2, .int (nI q)), (4, .int (nI (m - 1)))] dX8_parting_70 rfl (by decide) rfl ?_
            obtain ⟨v5, ev5⟩ : ∃ z : Int32, (nI (m - 1)) + Int32.ofInt (-1) = z := ⟨_, rfl⟩
            refine j_iinc (v := v5) (pc' := 74) C [(4, .int v5), (3, .int (nI y)), (0, .ref a0), (1, .int (nI j)), (2, .int (nI q))] dX8_parting_71 rfl 4 rfl (ev5) (by decide) rfl ?_
            refine j_goto C 36 dX8_parting_74 (by decide) ?_
            refine j_lsub [(0, .ref a0), (1, .int (nI j)), (2, .int (nI q)), (3, .int (nI y)), (4, .int v5)] [2, 3, 4, 1, 0] rfl ?_
            exact ih36 (m - 1) y v5 (⟨by omega, ev5.symm, by rw [show 2 ^ t 1 - (m - 1) = (2 ^ t 1 - m) + 1 by omega, prD, ← hy, show 2 ^ t 1 - 1 - (2 ^ t 1 - m) = m - 1 by omega]; first | rw [if_pos ⟨by omega, by assumption⟩] | rw [if_neg (by intro q9; omega)] | rw [if_neg (by simp_all)]⟩) (by omega)
          · refine j_aload_n (pc' := 54) C dX8_parting_53 rfl 0 rfl ?_
            refine j_iload_n (pc' := 55) C dX8_parting_54 rfl 1 rfl ?_
            refine j_iload_n (pc' := 56) C dX8_parting_55 rfl 2 rfl ?_
            refine j_iload (pc' := 58) C dX8_parting_56 rfl 4 rfl ?_
            refine j_cVi (As := [.int (nI j), .int (nI q), .int (nI (m - 1))]) (wr := []) (pc' := 61) C (c_X8_isFed (a0 := a0) (th := (nI 0)) (aX := aX) (ty := ty) (sp := sp) (tk := tk) (pl := pl) (va := va) (fa := fa) (aT := aT) (aD := aD) (aS := aS) (aU := aU) (um := um) (aK := aK) (aI := aI) (aL := aL) (aE := aE) (aF := aF) (sm := sm) (aP := aP) (aW := aW) (sn := sn) (aB := aB) (aM := aM) (t := t) (s := s) (l := j) (st := q) (wo := m - 1) (hT := by first | assumption | omega) (hS := by first | assumption | omega) (hl := by first | assumption | omega) (hst := by first | assumption | omega) (hwo := by first | assumption | omega)) Y_X8_isFed (ml_X8_144) [0, 1, 2] [] rfl rfl rfl rfl (by decide) rfl rfl rfl dX8_parting_58 rfl rfl rfl (Nat.le_of_ble_eq_true rfl) ⟨Nat.le_of_ble_eq_true rfl, Nat.le_of_ble_eq_true rfl⟩ ⟨Nat.le_of_ble_eq_true rfl, Nat.le_of_ble_eq_true rfl⟩ ⟨rfl, rfl⟩ (fun r6 w1 hQ => ?_)
            obtain ⟨rfl, rfl⟩ := hQ
            refine j_b_ne (pc' := 64) C 69 dX8_parting_61 (by decide) rfl (fun c61 => ?_) (fun c61 => ?_)
            · refine j_iload_n (pc' := 70) C dX8_parting_69 rfl 3 rfl ?_
              refine j_istore_n (pc' := 71) C [(3, .int (nI y)), (0, .ref a0), (1, .int (nI j)), (2, .int (nI q)), (4, .int (nI (m - 1)))] dX8_parting_70 rfl (by decide) rfl ?_
              obtain ⟨v7, ev7⟩ : ∃ z : Int32, (nI (m - 1)) + Int32.ofInt (-1) = z := ⟨_, rfl⟩
              refine j_iinc (v := v7) (pc' := 74) C [(4, .int v7), (3, .int (nI y)), (0, .ref a0), (1, .int (nI j)), (2, .int (nI q))] dX8_parting_71 rfl 4 rfl (ev7) (by decide) rfl ?_
              refine j_goto C 36 dX8_parting_74 (by decide) ?_
              refine j_lsub [(0, .ref a0), (1, .int (nI j)), (2, .int (nI q)), (3, .int (nI y)), (4, .int v7)] [2, 3, 4, 1, 0] rfl ?_
              exact ih36 (m - 1) y v7 (⟨by omega, ev7.symm, by rw [show 2 ^ t 1 - (m - 1) = (2 ^ t 1 - m) + 1 by omega, prD, ← hy, show 2 ^ t 1 - 1 - (2 ^ t 1 - m) = m - 1 by omega]; first | rw [if_pos ⟨by omega, by assumption⟩] | rw [if_neg (by intro q9; omega)] | rw [if_neg (by simp_all)]⟩) (by omega)
            · refine j_iload (pc' := 66) C dX8_parting_64 rfl 4 rfl ?_
              refine j_goto C 70 dX8_parting_66 (by decide) ?_
              refine j_istore_n (pc' := 71) C [(3, .int (nI (m - 1))), (0, .ref a0), (1, .int (nI j)), (2, .int (nI q)), (4, .int (nI (m - 1)))] dX8_parting_70 rfl (by decide) rfl ?_
              obtain ⟨v8, ev8⟩ : ∃ z : Int32, (nI (m - 1)) + Int32.ofInt (-1) = z := ⟨_, rfl⟩
              refine j_iinc (v := v8) (pc' := 74) C [(4, .int v8), (3, .int (nI (m - 1))), (0, .ref a0), (1, .int (nI j)), (2, .int (nI q))] dX8_parting_71 rfl 4 rfl (ev8) (by decide) rfl ?_
              refine j_goto C 36 dX8_parting_74 (by decide) ?_
              refine j_lsub [(0, .ref a0), (1, .int (nI j)), (2, .int (nI q)), (3, .int (nI (m - 1))), (4, .int v8)] [2, 3, 4, 1, 0] rfl ?_
              exact ih36 (m - 1) (m - 1) v8 (⟨by omega, ev8.symm, by rw [show 2 ^ t 1 - (m - 1) = (2 ^ t 1 - m) + 1 by omega, prD, ← hy, show 2 ^ t 1 - 1 - (2 ^ t 1 - m) = m - 1 by omega]; first | rw [if_pos ⟨by omega, by assumption⟩] | rw [if_neg (by intro q9; omega)] | rw [if_neg (by simp_all)]⟩) (by omega)
      · exact ⟨Nat.le_refl _, (dec_n h8).symm, by rw [Nat.sub_self]; rfl⟩
    · refine j_iconst (v := (-1)) (pc' := 21) C dX8_parting_20 rfl (by decide +kernel) ?_
      exact j_iret C hr hk hA dX8_parting_21 (rfl) (⟨rfl, by unfold prQ; rw [if_pos (by simp_all)]⟩)

set_option maxHeartbeats 4000000 in
set_option maxRecDepth 100000 in
theorem c_X8_isEnough {lch : Launch} {dG : va_G} {cyI cyZ cyO : ClassId} (a0 : Nat) (th : Int32) (aX : Nat) (ty : Int32) (sp : Int32) (tk : Int32) (pl : Int32) (va : Int32) (fa : Int32) (aT : Nat) (aD : Nat) (aS : Nat) (aU : Nat) (um : Int32) (aK : Nat) (aI : Nat) (aL : Nat) (aE : Nat) (aF : Nat) (sm : Int32) (aP : Nat) (aW : Nat) (sn : Int32) (aB : Nat) (aM : Nat) (t : Nat → Nat) (s : Nat → Nat) (mi : Nat → Nat) (hT : WT t) (hS : WS s) : Ki lch yX8_isEnough cX8_isEnough 6 .boolean (rmk 6) dG (cyI, cyZ, cyO) [.ref a0, .ref aM] [(a0, .inr (8, [.int th, .ref aX, .int ty, .int sp, .int tk, .int pl, .int va, .int fa, .ref aT, .ref aD, .ref aS, .ref aU, .int um, .ref aK, .ref aI, .ref aL, .ref aE, .ref aF, .int sm, .ref aP, .ref aW, .int sn, .ref aB, .ref aM])), (aT, .inl (cyI, 42, .inl (nA t))), (aS, .inl (cyI, 30, .inl (nA s))), (aM, .inl (cyI, 3, .inl (nA mi)))] (fun r w1 => w1 = [(a0, .inr (8, [.int th, .ref aX, .int ty, .int sp, .int tk, .int pl, .int va, .int fa, .ref aT, .ref aD, .ref aS, .ref aU, .int um, .ref aK, .ref aI, .ref aL, .ref aE, .ref aF, .int sm, .ref aP, .ref aW, .int sn, .ref aB, .ref aM])), (aT, .inl (cyI, 42, .inl (nA t))), (aS, .inl (cyI, 30, .inl (nA s))), (aM, .inl (cyI, 3, .inl (nA mi)))] ∧ r = (bI (okE t s mi (t 2)))) := by
  have h1 := hT.n
  refine Ki.of (own := RX8) rfl (by decide) (Nat.le_of_ble_eq_true rfl) (fun p0 e0 s0 m0 ar0 be0 me0 cd0 A0 C hr hk hnm hA => ?_)
  refine j_lsub [(0, .ref a0), (1, .ref aM)] [0, 1] rfl ?_
  refine j_iconst (v := (nI 1)) (pc' := 1) C dX8_isEnough_0 rfl (by decide +kernel) ?_
  refine j_istore_n (pc' := 2) C [(2, .int (nI 1)), (0, .ref a0), (1, .ref aM)] dX8_isEnough_1 rfl (by decide) rfl ?_
  refine j_iconst (v := (nI 0)) (pc' := 3) C dX8_isEnough_2 rfl (by decide +kernel) ?_
  refine j_istore_n (pc' := 4) C [(3, .int (nI 0)), (2, .int (nI 1)), (0, .ref a0), (1, .ref aM)] dX8_isEnough_3 rfl (by decide) rfl ?_
  refine j_lsub [(0, .ref a0), (1, .ref aM), (2, .int (nI 1)), (3, .int (nI 0))] [2, 3, 1, 0] rfl ?_
  refine j_loop2 (fun (i : Nat) (b : Bool) => [(a0, .inr (8, [.int th, .ref aX, .int ty, .int sp, .int tk, .int pl, .int va, .int fa, .ref aT, .ref aD, .ref aS, .ref aU, .int um, .ref aK, .ref aI, .ref aL, .ref aE, .ref aF, .int sm, .ref aP, .ref aW, .int sn, .ref aB, .ref aM])), (aT, .inl (cyI, 42, .inl (nA t))), (aS, .inl (cyI, 30, .inl (nA s))), (aM, .inl (cyI, 3, .inl (nA mi)))]) (fun (i : Nat) (b : Bool) => [(0, .ref a0), (1, .ref aM), (2, .int (bI b)), (3, .int (nI i))]) (fun (i : Nat) (b : Bool) => []) (fun (i : Nat) (b : Bool) => i ≤ t 2 ∧ b = okE t s mi i) (fun (i : Nat) (b : Bool) => t 2 - i) ?_ 0 true ?_
  · intro i b hI4 ih4
    obtain ⟨hi, hb⟩ := hI4
    refine j_iload_n (pc' := 5) C dX8_isEnough_4 rfl 3 rfl ?_
    refine j_aload_n (pc' := 6) C dX8_isEnough_5 rfl 0 rfl ?_
    refine j_get (v := .ref aT) (pc' := 9) C KX8 0 8 rfl (by decide) fl_X8_13 rfl rfl dX8_isEnough_6 rfl ?_
    refine j_iconst (v := (nI 2)) (pc' := 10) C dX8_isEnough_9 rfl (by decide +kernel) ?_
    refine j_nald (pc' := 11) C 1 rfl (by omega) (by decide) dX8_isEnough_10 rfl ?_
    refine j_nc_ge (pc' := 14) C 73 dX8_isEnough_11 (by decide) rfl (by omega) (by omega) (fun c11 => ?_) (fun c11 => ?_)
    · refine j_iload_n (pc' := 74) C dX8_isEnough_73 rfl 2 rfl ?_
      exact j_iret C hr hk hA dX8_isEnough_74 (nrw_bI _) (⟨rfl, by rw [hb, show i = t 2 by omega]⟩)
    · have hw := hS.1 i (by omega)
      refine j_iload_n (pc' := 15) C dX8_isEnough_14 rfl 2 rfl ?_
      refine j_b_eq (pc' := 18) C 73 dX8_isEnough_15 (by decide) rfl (fun c15 => ?_) (fun c15 => ?_)
      · refine j_iload_n (pc' := 74) C dX8_isEnough_73 rfl 2 rfl ?_
        exact j_iret C hr hk hA dX8_isEnough_74 (nrw_bI _) (⟨rfl, by rw [okE_f (i := i) (by rw [← hb]; exact c15) (by omega), c15]⟩)
      · refine j_aload_n (pc' := 19) C dX8_isEnough_18 rfl 0 rfl ?_
        refine j_iload_n (pc' := 20) C dX8_isEnough_19 rfl 3 rfl ?_
        refine j_cVi (As := [.int (nI i)]) (wr := [(aM, .inl (cyI, 3, .inl (nA mi)))]) (pc' := 23) C (c_X8_fedIn (a0 := a0) (th := th) (aX := aX) (ty := ty) (sp := sp) (tk := tk) (pl := pl) (va := va) (fa := fa) (aT := aT) (aD := aD) (aS := aS) (aU := aU) (um := um) (aK := aK) (aI := aI) (aL := aL) (aE := aE) (aF := aF) (sm := sm) (aP := aP) (aW := aW) (sn := sn) (aB := aB) (aM := aM) (t := t) (s := s) (l := i) (hT := by first | assumption | omega) (hS := by first | assumption | omega) (hl := by first | assumption | omega)) Y_X8_fedIn (ml_X8_121) [0, 1, 2] [3] rfl rfl rfl rfl (by decide) rfl rfl rfl dX8_isEnough_20 rfl rfl rfl (Nat.le_of_ble_eq_true rfl) ⟨Nat.le_of_ble_eq_true rfl, Nat.le_of_ble_eq_true rfl⟩ ⟨Nat.le_of_ble_eq_true rfl, Nat.le_of_ble_eq_true rfl⟩ ⟨rfl, rfl⟩ (fun r1 w1 hQ => ?_)
        obtain ⟨rfl, rfl⟩ := hQ
        refine j_perm [(a0, .inr (8, [.int th, .ref aX, .int ty, .int sp, .int tk, .int pl, .int va, .int fa, .ref aT, .ref aD, .ref aS, .ref aU, .int um, .ref aK, .ref aI, .ref aL, .ref aE, .ref aF, .int sm, .ref aP, .ref aW, .int sn, .ref aB, .ref aM])), (aT, .inl (cyI, 42, .inl (nA t))), (aS, .inl (cyI, 30, .inl (nA s))), (aM, .inl (cyI, 3, .inl (nA mi)))] [1, 2, 3, 0] rfl rfl (by decide) ?_
        refine j_istore (pc' := 25) C [(4, .int (nI (fedN t s i))), (0, .ref a0), (1, .ref aM), (2, .int (bI b)), (3, .int (nI i))] dX8_isEnough_23 rfl (by decide) rfl ?_
        refine j_aload_n (pc' := 26) C dX8_isEnough_25 rfl 1 rfl ?_
        refine j_get (v := .ref aS) (pc' := 29) C KX8 0 10 rfl (by decide) fl_X8_19 rfl rfl dX8_isEnough_26 rfl ?_
        refine j_iconst (v := (nI 0)) (pc' := 30) C dX8_isEnough_29 rfl (by decide +kernel) ?_
        refine j_iload_n (pc' := 31) C dX8_isEnough_30 rfl 4 rfl ?_
        refine j_iadd (v := (nI i)) (pc' := 32) C dX8_isEnough_31 rfl (add_0I i) ?_
        refine j_nald (pc' := 33) C 2 rfl (by omega) (by decide) dX8_isEnough_32 rfl ?_
        refine j_istore (pc' := 35) C [(5, .int (nI (s i))), (4, .int (nI (fedN t s i))), (0, .ref a0), (1, .ref aM), (2, .int (bI b)), (3, .int (nI i))] dX8_isEnough_33 rfl (by decide) rfl ?_
        refine j_iload (pc' := 37) C dX8_isEnough_35 rfl 1 rfl ?_
        refine j_iload (pc' := 39) C dX8_isEnough_37 rfl 0 rfl ?_
        refine j_iconst (v := (nI 4294967295)) (pc' := 40) C dX8_isEnough_39 rfl (by decide +kernel) ?_
        refine j_ixor (v := (nI ((s i) ^^^ 4294967295))) (pc' := 41) C dX8_isEnough_40 rfl (fb_xorI (s i) 4294967295) ?_
        refine j_iand (v := (nI ((fedN t s i) &&& ((s i) ^^^ 4294967295)))) (pc' := 42) C dX8_isEnough_41 rfl (fa_and (fedN t s i) ((s i) ^^^ 4294967295)) ?_
        refine j_nz_ne (pc' := 45) C 65 dX8_isEnough_42 (by decide) rfl (Nat.lt_of_le_of_lt Nat.and_le_left (Nat.lt_trans (fedN_lt _ _ _) (by decide))) (fun c42 => ?_) (fun c42 => ?_)
        · refine j_iconst (v := (nI 0)) (pc' := 66) C dX8_isEnough_65 rfl (by decide +kernel) ?_
          refine j_istore_n (pc' := 67) C [(2, .int (nI 0)), (5, .int (nI (s i))), (4, .int (nI (fedN t s i))), (0, .ref a0), (1, .ref aM), (3, .int (nI i))] dX8_isEnough_66 rfl (by decide) rfl ?_
          refine j_iinc (v := (nI (i + 1))) (pc' := 70) C [(3, .int (nI (i + 1))), (2, .int (nI 0)), (5, .int (nI (s i))), (4, .int (nI (fedN t s i))), (0, .ref a0), (1, .ref aM)] dX8_isEnough_67 rfl 5 rfl (inc_n i 1) (by decide) rfl ?_
          refine j_goto C 4 dX8_isEnough_70 (by decide) ?_
          refine j_lsub [(0, .ref a0), (1, .ref aM), (2, .int (nI 0)), (3, .int (nI (i + 1)))] [4, 5, 1, 0] rfl ?_
          exact ih4 (i + 1) false (⟨by omega, by rw [okE, ← hb, c15]; unfold okL anN; simp_all⟩) (by omega)
        · refine j_iload (pc' := 47) C dX8_isEnough_45 rfl 0 rfl ?_
          refine j_iload (pc' := 49) C dX8_isEnough_47 rfl 1 rfl ?_
          refine j_iconst (v := (nI 4294967295)) (pc' := 50) C dX8_isEnough_49 rfl (by decide +kernel) ?_
          refine j_ixor (v := (nI ((fedN t s i) ^^^ 4294967295))) (pc' := 51) C dX8_isEnough_50 rfl (fb_xorI (fedN t s i) 4294967295) ?_
          refine j_iand (v := (nI ((s i) &&& ((fedN t s i) ^^^ 4294967295)))) (pc' := 52) C dX8_isEnough_51 rfl (fa_and (s i) ((fedN t s i) ^^^ 4294967295)) ?_
          refine j_aload_n (pc' := 53) C dX8_isEnough_52 rfl 3 rfl ?_
          refine j_iload_n (pc' := 54) C dX8_isEnough_53 rfl 5 rfl ?_
          refine j_nald (pc' := 55) C 3 rfl (by omega) (by decide) dX8_isEnough_54 rfl ?_
          refine j_iconst (v := (nI 4294967295)) (pc' := 56) C dX8_isEnough_55 rfl (by decide +kernel) ?_
          refine j_ixor (v := (nI ((mi i) ^^^ 4294967295))) (pc' := 57) C dX8_isEnough_56 rfl (fb_xorI (mi i) 4294967295) ?_
          refine j_iand (v := (nI (((s i) &&& ((fedN t s i) ^^^ 4294967295)) &&& ((mi i) ^^^ 4294967295)))) (pc' := 58) C dX8_isEnough_57 rfl (fa_and ((s i) &&& ((fedN t s i) ^^^ 4294967295)) ((mi i) ^^^ 4294967295)) ?_
          refine j_nz_ne (pc' := 61) C 65 dX8_isEnough_58 (by decide) rfl (Nat.lt_of_le_of_lt Nat.and_le_left (Nat.lt_of_le_of_lt Nat.and_le_left (by omega))) (fun c58 => ?_) (fun c58 => ?_)
          · refine j_iconst (v := (nI 0)) (pc' := 66) C dX8_isEnough_65 rfl (by decide +kernel) ?_
            refine j_istore_n (pc' := 67) C [(2, .int (nI 0)), (5, .int (nI (s i))), (4, .int (nI (fedN t s i))), (0, .ref a0), (1, .ref aM), (3, .int (nI i))] dX8_isEnough_66 rfl (by decide) rfl ?_
            refine j_iinc (v := (nI (i + 1))) (pc' := 70) C [(3, .int (nI (i + 1))), (2, .int (nI 0)), (5, .int (nI (s i))), (4, .int (nI (fedN t s i))), (0, .ref a0), (1, .ref aM)] dX8_isEnough_67 rfl 5 rfl (inc_n i 1) (by decide) rfl ?_
            refine j_goto C 4 dX8_isEnough_70 (by decide) ?_
            refine j_lsub [(0, .ref a0), (1, .ref aM), (2, .int (nI 0)), (3, .int (nI (i + 1)))] [4, 5, 1, 0] rfl ?_
            exact ih4 (i + 1) false (⟨by omega, by rw [okE, ← hb, c15]; unfold okL anN; simp_all⟩) (by omega)
          · refine j_iconst (v := (nI 1)) (pc' := 62) C dX8_isEnough_61 rfl (by decide +kernel) ?_
            refine j_goto C 66 dX8_isEnough_62 (by decide) ?_
            refine j_istore_n (pc' := 67) C [(2, .int (nI 1)), (5, .int (nI (s i))), (4, .int (nI (fedN t s i))), (0, .ref a0), (1, .ref aM), (3, .int (nI i))] dX8_isEnough_66 rfl (by decide) rfl ?_
            refine j_iinc (v := (nI (i + 1))) (pc' := 70) C [(3, .int (nI (i + 1))), (2, .int (nI 1)), (5, .int (nI (s i))), (4, .int (nI (fedN t s i))), (0, .ref a0), (1, .ref aM)] dX8_isEnough_67 rfl 5 rfl (inc_n i 1) (by decide) rfl ?_
            refine j_goto C 4 dX8_isEnough_70 (by decide) ?_
            refine j_lsub [(0, .ref a0), (1, .ref aM), (2, .int (nI 1)), (3, .int (nI (i + 1)))] [4, 5, 1, 0] rfl ?_
            exact ih4 (i + 1) true (⟨by omega, by rw [okE, ← hb, c15]; unfold okL anN; simp_all⟩) (by omega)
  · exact ⟨Nat.zero_le _, rfl⟩

set_option maxHeartbeats 4000000 in
set_option maxRecDepth 100000 in
theorem c_X8_enough {lch : Launch} {dG : va_G} {cyI cyZ cyO : ClassId} (a0 : Nat) (th : Int32) (aX : Nat) (ty : Int32) (sp : Int32) (tk : Int32) (pl : Int32) (va : Int32) (fa : Int32) (aT : Nat) (aD : Nat) (aS : Nat) (aU : Nat) (um : Int32) (aK : Nat) (aI : Nat) (aL : Nat) (aE : Nat) (aF : Nat) (sm : Int32) (aP : Nat) (aW : Nat) (sn : Int32) (aB : Nat) (aM : Nat) (t : Nat → Nat) (s : Nat → Nat) (mi : Nat → Nat) (w : Int32) (hT : WT t) (hS : WS s) : Ki lch yX8_enough cX8_enough 8 .int (rmk 7) dG (cyI, cyZ, cyO) [.ref a0, .int w] [(a0, .inr (8, [.int th, .ref aX, .int ty, .int sp, .int tk, .int pl, .int va, .int fa, .ref aT, .ref aD, .ref aS, .ref aU, .int um, .ref aK, .ref aI, .ref aL, .ref aE, .ref aF, .int sm, .ref aP, .ref aW, .int sn, .ref aB, .ref aM])), (aT, .inl (cyI, 42, .inl (nA t))), (aS, .inl (cyI, 30, .inl (nA s))), (aM, .inl (cyI, 3, .inl (nA mi)))] (fun r w1 => ∃ (m1 : Nat → Nat), w1 = [(a0, .inr (8, [.int (nI 0), .ref aX, .int ty, .int sp, .int tk, .int pl, .int va, .int fa, .ref aT, .ref aD, .ref aS, .ref aU, .int um, .ref aK, .ref aI, .ref aL, .ref aE, .ref aF, .int sm, .ref aP, .ref aW, .int sn, .ref aB, .ref aM])), (aT, .inl (cyI, 42, .inl (nA t))), (aS, .inl (cyI, 30, .inl (nA s))), (aM, .inl (cyI, 3, .inl (nA m1)))] ∧ r = (enQ t s w)) := by
  have h1 := hT.n
  refine Ki.of (own := RX8) rfl (by decide) (Nat.le_of_ble_eq_true rfl) (fun p0 e0 s0 m0 ar0 be0 me0 cd0 A0 C hr hk hnm hA => ?_)
  refine j_lsub [(0, .ref a0), (1, .int w)] [0, 1] rfl ?_
  refine j_aload_n (pc' := 1) C dX8_enough_0 rfl 0 rfl ?_
  refine j_iconst (v := (nI 0)) (pc' := 2) C dX8_enough_1 rfl (by decide +kernel) ?_
  refine j_put (pc' := 5) C [(a0, .inr (8, [.int (nI 0), .ref aX, .int ty, .int sp, .int tk, .int pl, .int va, .int fa, .ref aT, .ref aD, .ref aS, .ref aU, .int um, .ref aK, .ref aI, .ref aL, .ref aE, .ref aF, .int sm, .ref aP, .ref aW, .int sn, .ref aB, .ref aM])), (aT, .inl (cyI, 42, .inl (nA t))), (aS, .inl (cyI, 30, .inl (nA s))), (aM, .inl (cyI, 3, .inl (nA mi)))] KX8 0 0 rfl (by decide) fl_X8_59 rfl rfl rfl rfl (Nat.le_of_ble_eq_true rfl) dX8_enough_2 rfl rfl ?_
  refine j_iload_n (pc' := 6) C dX8_enough_5 rfl 1 rfl ?_
  refine j_iconst (v := (nI 0)) (pc' := 7) C dX8_enough_6 rfl (by decide +kernel) ?_
  refine j_iconst (v := (nI 1)) (pc' := 8) C dX8_enough_7 rfl (by decide +kernel) ?_
  refine j_cSi (As := [.int w, .int (nI 0), .int (nI 1)]) (wr := [(a0, .inr (8, [.int (nI 0), .ref aX, .int ty, .int sp, .int tk, .int pl, .int va, .int fa, .ref aT, .ref aD, .ref aS, .ref aU, .int um, .ref aK, .ref aI, .ref aL, .ref aE, .ref aF, .int sm, .ref aP, .ref aW, .int sn, .ref aB, .ref aM])), (aT, .inl (cyI, 42, .inl (nA t))), (aS, .inl (cyI, 30, .inl (nA s))), (aM, .inl (cyI, 3, .inl (nA mi)))]) (pc' := 11) C (c_X8_in (x := w) (a := (nI 0)) (b := (nI 1)) ) Y_X8_in (ml_X8_63) [] [0, 1, 2, 3] rfl rfl rfl rfl (by decide) dX8_enough_8 rfl rfl rfl (Nat.le_of_ble_eq_true rfl) ⟨Nat.le_of_ble_eq_true rfl, Nat.le_of_ble_eq_true rfl⟩ ⟨Nat.le_of_ble_eq_true rfl, Nat.le_of_ble_eq_true rfl⟩ ⟨rfl, rfl⟩ (fun r1 w1 hQ => ?_)
  obtain ⟨rfl, rfl⟩ := hQ
  refine j_perm [(a0, .inr (8, [.int (nI 0), .ref aX, .int ty, .int sp, .int tk, .int pl, .int va, .int fa, .ref aT, .ref aD, .ref aS, .ref aU, .int um, .ref aK, .ref aI, .ref aL, .ref aE, .ref aF, .int sm, .ref aP, .ref aW, .int sn, .ref aB, .ref aM])), (aT, .inl (cyI, 42, .inl (nA t))), (aS, .inl (cyI, 30, .inl (nA s))), (aM, .inl (cyI, 3, .inl (nA mi)))] [0, 1, 2, 3] rfl rfl (by decide) ?_
  refine j_b_ne (pc' := 14) C 16 dX8_enough_11 (by decide) rfl (fun c11 => ?_) (fun c11 => ?_)
  · rw [in_R2 _ _ (by omega)] at c11
    obtain ⟨q, hq, rfl⟩ := inR_t c11 (by omega)
    refine j_iconst (v := (nI 0)) (pc' := 17) C dX8_enough_16 rfl (by decide +kernel) ?_
    refine j_istore_n (pc' := 18) C [(2, .int (nI 0)), (0, .ref a0), (1, .int (nI q))] dX8_enough_17 rfl (by decide) rfl ?_
    refine j_lsub [(0, .ref a0), (1, .int (nI q)), (2, .int (nI 0))] [1, 2, 0] rfl ?_
    refine j_loop2 (fun (i : Nat) (mm : Nat → Nat) => [(a0, .inr (8, [.int (nI 0), .ref aX, .int ty, .int sp, .int tk, .int pl, .int va, .int fa, .ref aT, .ref aD, .ref aS, .ref aU, .int um, .ref aK, .ref aI, .ref aL, .ref aE, .ref aF, .int sm, .ref aP, .ref aW, .int sn, .ref aB, .ref aM])), (aT, .inl (cyI, 42, .inl (nA t))), (aS, .inl (cyI, 30, .inl (nA s))), (aM, .inl (cyI, 3, .inl (nA mm)))]) (fun (i : Nat) (mm : Nat → Nat) => [(0, .ref a0), (1, .int (nI q)), (2, .int (nI i))]) (fun (i : Nat) (mm : Nat → Nat) => []) (fun (i : Nat) (mm : Nat → Nat) => i ≤ t 2 ∧ mm = flN mi (fun l => anN (s l) (fedN t s l)) 0 i) (fun (i : Nat) (mm : Nat → Nat) => t 2 - i) ?_ 0 mi ?_
    · intro i mm hI18 ih18
      obtain ⟨hi, hmm⟩ := hI18
      refine j_iload_n (pc' := 19) C dX8_enough_18 rfl 2 rfl ?_
      refine j_aload_n (pc' := 20) C dX8_enough_19 rfl 0 rfl ?_
      refine j_get (v := .ref aT) (pc' := 23) C KX8 0 8 rfl (by decide) fl_X8_13 rfl rfl dX8_enough_20 rfl ?_
      refine j_iconst (v := (nI 2)) (pc' := 24) C dX8_enough_23 rfl (by decide +kernel) ?_
      refine j_nald (pc' := 25) C 1 rfl (by omega) (by decide) dX8_enough_24 rfl ?_
      refine j_nc_ge (pc' := 28) C 56 dX8_enough_25 (by decide) rfl (by omega) (by omega) (fun c25 => ?_) (fun c25 => ?_)
      · refine j_iconst (v := (nI 0)) (pc' := 57) C dX8_enough_56 rfl (by decide +kernel) ?_
        refine j_istore_n (pc' := 58) C [(2, .int (nI 0)), (0, .ref a0), (1, .int (nI q))] dX8_enough_57 rfl (by decide) rfl ?_
        refine j_bipush (v := (-9)) (pc' := 60) C dX8_enough_58 rfl (by decide +kernel) ?_
        refine j_istore_n (pc' := 61) C [(3, .int (-9)), (2, .int (nI 0)), (0, .ref a0), (1, .int (nI q))] dX8_enough_60 rfl (by decide) rfl ?_
        refine j_iconst (v := (nI 0)) (pc' := 62) C dX8_enough_61 rfl (by decide +kernel) ?_
        refine j_istore (pc' := 64) C [(4, .int (nI 0)), (3, .int (-9)), (2, .int (nI 0)), (0, .ref a0), (1, .int (nI q))] dX8_enough_62 rfl (by decide) rfl ?_
        refine j_lsub [(0, .ref a0), (1, .int (nI q)), (2, .int (nI 0)), (3, .int (-9)), (4, .int (nI 0))] [3, 4, 2, 1, 0] rfl ?_
        refine j_loop3 (fun (k : Nat) (n : Nat) (f : Int32) => [(a0, .inr (8, [.int (nI 0), .ref aX, .int ty, .int sp, .int tk, .int pl, .int va, .int fa, .ref aT, .ref aD, .ref aS, .ref aU, .int um, .ref aK, .ref aI, .ref aL, .ref aE, .ref aF, .int sm, .ref aP, .ref aW, .int sn, .ref aB, .ref aM])), (aT, .inl (cyI, 42, .inl (nA t))), (aS, .inl (cyI, 30, .inl (nA s))), (aM, .inl (cyI, 3, .inl (nA mm)))]) (fun (k : Nat) (n : Nat) (f : Int32) => [(0, .ref a0), (1, .int (nI q)), (2, .int (nI n)), (3, .int f), (4, .int (nI k))]) (fun (k : Nat) (n : Nat) (f : Int32) => []) (fun (k : Nat) (n : Nat) (f : Int32) => k ≤ 10 * t 1 ∧ n ≤ k ∧ n = (enF t s mm k).1 ∧ f = (enF t s mm k).2) (fun (k : Nat) (n : Nat) (f : Int32) => 10 * t 1 - k) ?_ 0 0 (-9) ?_
        · intro k n f hI64 ih64
          obtain ⟨hk0, hnk, hn, hf⟩ := hI64
          refine j_iload (pc' := 66) C dX8_enough_64 rfl 4 rfl ?_
          refine j_bipush (v := (nI 10)) (pc' := 68) C dX8_enough_66 rfl (by decide +kernel) ?_
          refine j_aload_n (pc' := 69) C dX8_enough_68 rfl 0 rfl ?_
          refine j_get (v := .ref aT) (pc' := 72) C KX8 0 8 rfl (by decide) fl_X8_13 rfl rfl dX8_enough_69 rfl ?_
          refine j_iconst (v := (nI 1)) (pc' := 73) C dX8_enough_72 rfl (by decide +kernel) ?_
          refine j_nald (pc' := 74) C 1 rfl (by omega) (by decide) dX8_enough_73 rfl ?_
          refine j_imul (v := (nI (10 * (t 1)))) (pc' := 75) C dX8_enough_74 rfl (pk_mul 10 (t 1)) ?_
          refine j_nc_ge (pc' := 78) C 251 dX8_enough_75 (by decide) rfl (by omega) (by omega) (fun c75 => ?_) (fun c75 => ?_)
          · refine j_iload_n (pc' := 252) C dX8_enough_251 rfl 1 rfl ?_
            refine j_nz_ne (pc' := 255) C 259 dX8_enough_252 (by decide) rfl (by omega) (fun c252 => ?_) (fun c252 => ?_)
            · refine j_iload_n (pc' := 260) C dX8_enough_259 rfl 3 rfl ?_
              exact j_iret C hr hk hA dX8_enough_260 (rfl) (⟨_, rfl, by unfold enQ; rw [if_neg (by simp_all)]; rw [show k = 10 * t 1 by omega] at hn hf; have hcg := enF_cong (t := t) (s := s) (m := mm) (m' := fun l => anN (s l) (fedN t s l)) (fun l hl => by rw [hmm, flN_i (Nat.zero_le _) (by omega)]; rfl) (10 * t 1); first | rw [if_pos (by rw [c252]), ← hcg, ← hn] | rw [if_neg (by intro q9; exact c252 ((nI_eq (by omega) (by omega)).mp q9)), ← hcg, ← hf]⟩)
            · refine j_iload_n (pc' := 256) C dX8_enough_255 rfl 2 rfl ?_
              refine j_goto C 260 dX8_enough_256 (by decide) ?_
              exact j_iret C hr hk hA dX8_enough_260 (rfl) (⟨_, rfl, by unfold enQ; rw [if_neg (by simp_all)]; rw [show k = 10 * t 1 by omega] at hn hf; have hcg := enF_cong (t := t) (s := s) (m := mm) (m' := fun l => anN (s l) (fedN t s l)) (fun l hl => by rw [hmm, flN_i (Nat.zero_le _) (by omega)]; rfl) (10 * t 1); first | rw [if_pos (by rw [c252]), ← hcg, ← hn] | rw [if_neg (by intro q9; exact c252 ((nI_eq (by omega) (by omega)).mp q9)), ← hcg, ← hf]⟩)
          · have h2 : k / 10 < 9 := by omega
            have h2b : k % 10 < 10 := by omega
            refine j_iload (pc' := 80) C dX8_enough_78 rfl 4 rfl ?_
            refine j_bipush (v := (nI 10)) (pc' := 82) C dX8_enough_80 rfl (by decide +kernel) ?_
            refine j_idiv (v := (nI (k / 10))) (pc' := 83) C dX8_enough_82 rfl (nI_ne0 (by omega) (by omega)) (pk_div (by omega) (by omega) (by omega)) ?_
            refine j_istore (pc' := 85) C [(5, .int (nI (k / 10))), (0, .ref a0), (1, .int (nI q)), (2, .int (nI n)), (3, .int f), (4, .int (nI k))] dX8_enough_83 rfl (by decide) rfl ?_
            refine j_iload (pc' := 87) C dX8_enough_85 rfl 5 rfl ?_
            refine j_bipush (v := (nI 10)) (pc' := 89) C dX8_enough_87 rfl (by decide +kernel) ?_
            refine j_irem (v := (nI (k % 10))) (pc' := 90) C dX8_enough_89 rfl (nI_ne0 (by omega) (by omega)) (pk_rem (by omega) (by omega) (by omega)) ?_
            refine j_istore (pc' := 92) C [(6, .int (nI (k % 10))), (5, .int (nI (k / 10))), (0, .ref a0), (1, .int (nI q)), (2, .int (nI n)), (3, .int f), (4, .int (nI k))] dX8_enough_90 rfl (by decide) rfl ?_
            refine j_aload_n (pc' := 93) C dX8_enough_92 rfl 2 rfl ?_
            refine j_get (v := .ref aS) (pc' := 96) C KX8 0 10 rfl (by decide) fl_X8_19 rfl rfl dX8_enough_93 rfl ?_
            refine j_iconst (v := (nI 3)) (pc' := 97) C dX8_enough_96 rfl (by decide +kernel) ?_
            refine j_iload (pc' := 99) C dX8_enough_97 rfl 1 rfl ?_
            refine j_iadd (v := (nI (3 + (k / 10)))) (pc' := 100) C dX8_enough_99 rfl (nI_add 3 (k / 10)) ?_
            refine j_nald (pc' := 101) C 2 rfl (by omega) (by decide) dX8_enough_100 rfl ?_
            refine j_iconst (v := (nI 4)) (pc' := 102) C dX8_enough_101 rfl (by decide +kernel) ?_
            refine j_nc_ne (pc' := 105) C 245 dX8_enough_102 (by decide) rfl (by have := hS.c h2; omega) (by omega) (fun c102 => ?_) (fun c102 => ?_)
            · refine j_iinc (v := (nI (k + 1))) (pc' := 248) C [(4, .int (nI (k + 1))), (6, .int (nI (k % 10))), (5, .int (nI (k / 10))), (0, .ref a0), (1, .int (nI q)), (2, .int (nI n)), (3, .int f)] dX8_enough_245 rfl 6 rfl (inc_n k 1) (by decide) rfl ?_
              refine j_goto C 64 dX8_enough_248 (by decide) ?_
              refine j_lsub [(0, .ref a0), (1, .int (nI q)), (2, .int (nI n)), (3, .int f), (4, .int (nI (k + 1)))] [3, 4, 5, 6, 0] rfl ?_
              exact ih64 (k + 1) n f (⟨by omega, by omega, by simp only [enF]; first | rw [if_neg (fun q9 => c102 q9.1), ← hn] | rw [if_neg (fun q9 => absurd q9.2 (by rw [c170]; decide)), ← hn, Nat.add_zero] | rw [if_pos ⟨c102, c170⟩, ← hn], by simp only [enF]; first | rw [if_neg (fun q9 => c102 q9.1), ← hf] | rw [if_neg (fun q9 => absurd q9.2 (by rw [c170]; decide)), ← hf] | (rw [if_pos ⟨c102, c170⟩]; simp only [← hn, ← hf]; first | rw [if_pos c174, trE_k, trE_b] | rw [if_neg c174])⟩) (by omega)
            · have h3 := (hS.c h2).2.2.2 (by omega)
              have h4 := WS_tr hS h2 h2b
              refine j_aload_n (pc' := 106) C dX8_enough_105 rfl 2 rfl ?_
              refine j_get (v := .ref aS) (pc' := 109) C KX8 0 10 rfl (by decide) fl_X8_19 rfl rfl dX8_enough_106 rfl ?_
              refine j_iconst (v := (nI 3)) (pc' := 110) C dX8_enough_109 rfl (by decide +kernel) ?_
              refine j_iload (pc' := 112) C dX8_enough_110 rfl 1 rfl ?_
              refine j_iadd (v := (nI (3 + (k / 10)))) (pc' := 113) C dX8_enough_112 rfl (nI_add 3 (k / 10)) ?_
              refine j_iload (pc' := 115) C dX8_enough_113 rfl 0 rfl ?_
              refine j_bipush (v := (nI 8)) (pc' := 117) C dX8_enough_115 rfl (by decide +kernel) ?_
              refine j_nc_ge (pc' := 120) C 127 dX8_enough_117 (by decide) rfl (by omega) (by omega) (fun c117 => ?_) (fun c117 => ?_)
              · refine j_iload (pc' := 129) C dX8_enough_127 rfl 0 rfl ?_
                refine j_bipush (v := (nI 6)) (pc' := 131) C dX8_enough_129 rfl (by decide +kernel) ?_
                refine j_isub (v := (nI ((k % 10) - 6))) (pc' := 132) C dX8_enough_131 rfl (pk_sub (by omega)) ?_
                refine j_nast (pc' := 133) C [(a0, .inr (8, [.int (nI 0), .ref aX, .int ty, .int sp, .int tk, .int pl, .int va, .int fa, .ref aT, .ref aD, .ref aS, .ref aU, .int um, .ref aK, .ref aI, .ref aL, .ref aE, .ref aF, .int sm, .ref aP, .ref aW, .int sn, .ref aB, .ref aM])), (aT, .inl (cyI, 42, .inl (nA t))), (aS, .inl (cyI, 30, .inl (nA (uN s (3 + (k / 10)) ((k % 10) - 6))))), (aM, .inl (cyI, 3, .inl (nA mm)))] 2 rfl (by omega) (by decide) dX8_enough_132 rfl rfl ?_
                refine j_aload_n (pc' := 134) C dX8_enough_133 rfl 2 rfl ?_
                refine j_get (v := .ref aS) (pc' := 137) C KX8 0 10 rfl (by decide) fl_X8_19 rfl rfl dX8_enough_134 rfl ?_
                refine j_bipush (v := (nI 12)) (pc' := 139) C dX8_enough_137 rfl (by decide +kernel) ?_
                refine j_iload (pc' := 141) C dX8_enough_139 rfl 1 rfl ?_
                refine j_iadd (v := (nI (12 + (k / 10)))) (pc' := 142) C dX8_enough_141 rfl (nI_add 12 (k / 10)) ?_
                refine j_iload (pc' := 144) C dX8_enough_142 rfl 0 rfl ?_
                refine j_bipush (v := (nI 8)) (pc' := 146) C dX8_enough_144 rfl (by decide +kernel) ?_
                refine j_nc_ge (pc' := 149) C 156 dX8_enough_146 (by decide) rfl (by omega) (by omega) (fun c146 => ?_) (fun c146 => ?_)
                · refine j_iconst (v := (nI 0)) (pc' := 157) C dX8_enough_156 rfl (by decide +kernel) ?_
                  refine j_nast (pc' := 158) C [(a0, .inr (8, [.int (nI 0), .ref aX, .int ty, .int sp, .int tk, .int pl, .int va, .int fa, .ref aT, .ref aD, .ref aS, .ref aU, .int um, .ref aK, .ref aI, .ref aL, .ref aE, .ref aF, .int sm, .ref aP, .ref aW, .int sn, .ref aB, .ref aM])), (aT, .inl (cyI, 42, .inl (nA t))), (aS, .inl (cyI, 30, .inl (nA (uN (uN s (3 + (k / 10)) ((k % 10) - 6)) (12 + (k / 10)) 0)))), (aM, .inl (cyI, 3, .inl (nA mm)))] 2 rfl (by omega) (by decide) dX8_enough_157 rfl rfl ?_
                  refine j_w [(a0, .inr (8, [.int (nI 0), .ref aX, .int ty, .int sp, .int tk, .int pl, .int va, .int fa, .ref aT, .ref aD, .ref aS, .ref aU, .int um, .ref aK, .ref aI, .ref aL, .ref aE, .ref aF, .int sm, .ref aP, .ref aW, .int sn, .ref aB, .ref aM])), (aT, .inl (cyI, 42, .inl (nA t))), (aS, .inl (cyI, 30, .inl (nA (trE s (k / 10) (k % 10))))), (aM, .inl (cyI, 3, .inl (nA mm)))] (by unfold trE kdE byE; rw [if_neg (by omega), if_neg (by omega)]) ?_
                  refine j_aload_n (pc' := 159) C dX8_enough_158 rfl 2 rfl ?_
                  refine j_aload_n (pc' := 160) C dX8_enough_159 rfl 2 rfl ?_
                  refine j_get (v := .ref aM) (pc' := 163) C KX8 0 23 rfl (by decide) fl_X8_50 rfl rfl dX8_enough_160 rfl ?_
                  refine j_cVi (As := [.ref aM]) (wr := []) (pc' := 166) C (c_X8_isEnough (a0 := a0) (th := (nI 0)) (aX := aX) (ty := ty) (sp := sp) (tk := tk) (pl := pl) (va := va) (fa := fa) (aT := aT) (aD := aD) (aS := aS) (aU := aU) (um := um) (aK := aK) (aI := aI) (aL := aL) (aE := aE) (aF := aF) (sm := sm) (aP := aP) (aW := aW) (sn := sn) (aB := aB) (aM := aM) (t := t) (s := trE s (k / 10) (k % 10)) (mi := mm) (hT := by first | assumption | omega) (hS := h4)) Y_X8_isEnough (ml_X8_185) [0, 1, 2, 3] [] rfl rfl rfl rfl (by decide) rfl rfl rfl dX8_enough_163 rfl rfl rfl (Nat.le_of_ble_eq_true rfl) ⟨Nat.le_of_ble_eq_true rfl, Nat.le_of_ble_eq_true rfl⟩ ⟨Nat.le_of_ble_eq_true rfl, Nat.le_of_ble_eq_true rfl⟩ ⟨rfl, rfl⟩ (fun r2 w1 hQ => ?_)
                  obtain ⟨rfl, rfl⟩ := hQ
                  refine j_istore (pc' := 168) C [(7, .int (bI (okE t (trE s (k / 10) (k % 10)) mm (t 2)))), (6, .int (nI (k % 10))), (5, .int (nI (k / 10))), (0, .ref a0), (1, .int (nI q)), (2, .int (nI n)), (3, .int f), (4, .int (nI k))] dX8_enough_166 rfl (by decide) rfl ?_
                  refine j_iload (pc' := 170) C dX8_enough_168 rfl 0 rfl ?_
                  refine j_b_eq (pc' := 173) C 209 dX8_enough_170 (by decide) rfl (fun c170 => ?_) (fun c170 => ?_)
                  · refine j_iload_n (pc' := 210) C dX8_enough_209 rfl 6 rfl ?_
                    refine j_istore_n (pc' := 211) C [(3, .int f), (7, .int (bI (okE t (trE s (k / 10) (k % 10)) mm (t 2)))), (6, .int (nI (k % 10))), (5, .int (nI (k / 10))), (0, .ref a0), (1, .int (nI q)), (2, .int (nI n)), (4, .int (nI k))] dX8_enough_210 rfl (by decide) rfl ?_
                    refine j_iload_n (pc' := 212) C dX8_enough_211 rfl 6 rfl ?_
                    refine j_iload (pc' := 214) C dX8_enough_212 rfl 1 rfl ?_
                    refine j_b_eq (pc' := 217) C 221 dX8_enough_214 (by decide) rfl (fun c214 => ?_) (fun c214 => ?_)
                    · refine j_iconst (v := (nI 0)) (pc' := 222) C dX8_enough_221 rfl (by decide +kernel) ?_
                      refine j_iadd (v := (nI (n + 0))) (pc' := 223) C dX8_enough_222 rfl (nI_add n 0) ?_
                      refine j_istore_n (pc' := 224) C [(2, .int (nI (n + 0))), (3, .int f), (7, .int (bI (okE t (trE s (k / 10) (k % 10)) mm (t 2)))), (6, .int (nI (k % 10))), (5, .int (nI (k / 10))), (0, .ref a0), (1, .int (nI q)), (4, .int (nI k))] dX8_enough_223 rfl (by decide) rfl ?_
                      refine j_aload_n (pc' := 225) C dX8_enough_224 rfl 5 rfl ?_
                      refine j_get (v := .ref aS) (pc' := 228) C KX8 0 10 rfl (by decide) fl_X8_19 rfl rfl dX8_enough_225 rfl ?_
                      refine j_iconst (v := (nI 3)) (pc' := 229) C dX8_enough_228 rfl (by decide +kernel) ?_
                      refine j_iload (pc' := 231) C dX8_enough_229 rfl 4 rfl ?_
                      refine j_iadd (v := (nI (3 + (k / 10)))) (pc' := 232) C dX8_enough_231 rfl (nI_add 3 (k / 10)) ?_
                      refine j_iconst (v := (nI 4)) (pc' := 233) C dX8_enough_232 rfl (by decide +kernel) ?_
                      refine j_nast (pc' := 234) C [(a0, .inr (8, [.int (nI 0), .ref aX, .int ty, .int sp, .int tk, .int pl, .int va, .int fa, .ref aT, .ref aD, .ref aS, .ref aU, .int um, .ref aK, .ref aI, .ref aL, .ref aE, .ref aF, .int sm, .ref aP, .ref aW, .int sn, .ref aB, .ref aM])), (aT, .inl (cyI, 42, .inl (nA t))), (aS, .inl (cyI, 30, .inl (nA (uN (trE s (k / 10) (k % 10)) (3 + (k / 10)) 4)))), (aM, .inl (cyI, 3, .inl (nA mm)))] 2 rfl (by omega) (by decide) dX8_enough_233 rfl rfl ?_
                      refine j_aload_n (pc' := 235) C dX8_enough_234 rfl 5 rfl ?_
                      refine j_get (v := .ref aS) (pc' := 238) C KX8 0 10 rfl (by decide) fl_X8_19 rfl rfl dX8_enough_235 rfl ?_
                      refine j_bipush (v := (nI 12)) (pc' := 240) C dX8_enough_238 rfl (by decide +kernel) ?_
                      refine j_iload (pc' := 242) C dX8_enough_240 rfl 4 rfl ?_
                      refine j_iadd (v := (nI (12 + (k / 10)))) (pc' := 243) C dX8_enough_242 rfl (nI_add 12 (k / 10)) ?_
                      refine j_iconst (v := (nI 0)) (pc' := 244) C dX8_enough_243 rfl (by decide +kernel) ?_
                      refine j_nast (pc' := 245) C [(a0, .inr (8, [.int (nI 0), .ref aX, .int ty, .int sp, .int tk, .int pl, .int va, .int fa, .ref aT, .ref aD, .ref aS, .ref aU, .int um, .ref aK, .ref aI, .ref aL, .ref aE, .ref aF, .int sm, .ref aP, .ref aW, .int sn, .ref aB, .ref aM])), (aT, .inl (cyI, 42, .inl (nA t))), (aS, .inl (cyI, 30, .inl (nA (uN (uN (trE s (k / 10) (k % 10)) (3 + (k / 10)) 4) (12 + (k / 10)) 0)))), (aM, .inl (cyI, 3, .inl (nA mm)))] 2 rfl (by omega) (by decide) dX8_enough_244 rfl rfl ?_
                      refine j_w [(a0, .inr (8, [.int (nI 0), .ref aX, .int ty, .int sp, .int tk, .int pl, .int va, .int fa, .ref aT, .ref aD, .ref aS, .ref aU, .int um, .ref aK, .ref aI, .ref aL, .ref aE, .ref aF, .int sm, .ref aP, .ref aW, .int sn, .ref aB, .ref aM])), (aT, .inl (cyI, 42, .inl (nA t))), (aS, .inl (cyI, 30, .inl (nA s))), (aM, .inl (cyI, 3, .inl (nA mm)))] (by rw [trE_back c102 h3]) ?_
                      refine j_iinc (v := (nI (k + 1))) (pc' := 248) C [(4, .int (nI (k + 1))), (2, .int (nI (n + 0))), (3, .int f), (7, .int (bI (okE t (trE s (k / 10) (k % 10)) mm (t 2)))), (6, .int (nI (k % 10))), (5, .int (nI (k / 10))), (0, .ref a0), (1, .int (nI q))] dX8_enough_245 rfl 7 rfl (inc_n k 1) (by decide) rfl ?_
                      refine j_goto C 64 dX8_enough_248 (by decide) ?_
                      refine j_lsub [(0, .ref a0), (1, .int (nI q)), (2, .int (nI (n + 0))), (3, .int f), (4, .int (nI (k + 1)))] [6, 7, 1, 2, 0] rfl ?_
                      exact ih64 (k + 1) (n + 0) f (⟨by omega, by omega, by simp only [enF]; first | rw [if_neg (fun q9 => c102 q9.1), ← hn] | rw [if_neg (fun q9 => absurd q9.2 (by rw [c170]; decide)), ← hn, Nat.add_zero] | rw [if_pos ⟨c102, c170⟩, ← hn], by simp only [enF]; first | rw [if_neg (fun q9 => c102 q9.1), ← hf] | rw [if_neg (fun q9 => absurd q9.2 (by rw [c170]; decide)), ← hf] | (rw [if_pos ⟨c102, c170⟩]; simp only [← hn, ← hf]; first | rw [if_pos c174, trE_k, trE_b] | rw [if_neg c174])⟩) (by omega)
                    · exact absurd c214 (by rw [c170]; decide)
                  · refine j_iload_n (pc' := 174) C dX8_enough_173 rfl 5 rfl ?_
                    refine j_nz_ne (pc' := 177) C 209 dX8_enough_174 (by decide) rfl (by omega) (fun c174 => ?_) (fun c174 => ?_)
                    · refine j_iload_n (pc' := 210) C dX8_enough_209 rfl 6 rfl ?_
                      refine j_istore_n (pc' := 211) C [(3, .int f), (7, .int (bI (okE t (trE s (k / 10) (k % 10)) mm (t 2)))), (6, .int (nI (k % 10))), (5, .int (nI (k / 10))), (0, .ref a0), (1, .int (nI q)), (2, .int (nI n)), (4, .int (nI k))] dX8_enough_210 rfl (by decide) rfl ?_
                      refine j_iload_n (pc' := 212) C dX8_enough_211 rfl 6 rfl ?_
                      refine j_iload (pc' := 214) C dX8_enough_212 rfl 1 rfl ?_
                      refine j_b_eq (pc' := 217) C 221 dX8_enough_214 (by decide) rfl (fun c214 => ?_) (fun c214 => ?_)
                      · exact absurd c214 (by rw [c170]; decide)
                      · refine j_iconst (v := (nI 1)) (pc' := 218) C dX8_enough_217 rfl (by decide +kernel) ?_
                        refine j_goto C 222 dX8_enough_218 (by decide) ?_
                        refine j_iadd (v := (nI (n + 1))) (pc' := 223) C dX8_enough_222 rfl (nI_add n 1) ?_
                        refine j_istore_n (pc' := 224) C [(2, .int (nI (n + 1))), (3, .int f), (7, .int (bI (okE t (trE s (k / 10) (k % 10)) mm (t 2)))), (6, .int (nI (k % 10))), (5, .int (nI (k / 10))), (0, .ref a0), (1, .int (nI q)), (4, .int (nI k))] dX8_enough_223 rfl (by decide) rfl ?_
                        refine j_aload_n (pc' := 225) C dX8_enough_224 rfl 5 rfl ?_
                        refine j_get (v := .ref aS) (pc' := 228) C KX8 0 10 rfl (by decide) fl_X8_19 rfl rfl dX8_enough_225 rfl ?_
                        refine j_iconst (v := (nI 3)) (pc' := 229) C dX8_enough_228 rfl (by decide +kernel) ?_
                        refine j_iload (pc' := 231) C dX8_enough_229 rfl 4 rfl ?_
                        refine j_iadd (v := (nI (3 + (k / 10)))) (pc' := 232) C dX8_enough_231 rfl (nI_add 3 (k / 10)) ?_
                        refine j_iconst (v := (nI 4)) (pc' := 233) C dX8_enough_232 rfl (by decide +kernel) ?_
                        refine j_nast (pc' := 234) C [(a0, .inr (8, [.int (nI 0), .ref aX, .int ty, .int sp, .int tk, .int pl, .int va, .int fa, .ref aT, .ref aD, .ref aS, .ref aU, .int um, .ref aK, .ref aI, .ref aL, .ref aE, .ref aF, .int sm, .ref aP, .ref aW, .int sn, .ref aB, .ref aM])), (aT, .inl (cyI, 42, .inl (nA t))), (aS, .inl (cyI, 30, .inl (nA (uN (trE s (k / 10) (k % 10)) (3 + (k / 10)) 4)))), (aM, .inl (cyI, 3, .inl (nA mm)))] 2 rfl (by omega) (by decide) dX8_enough_233 rfl rfl ?_
                        refine j_aload_n (pc' := 235) C dX8_enough_234 rfl 5 rfl ?_
                        refine j_get (v := .ref aS) (pc' := 238) C KX8 0 10 rfl (by decide) fl_X8_19 rfl rfl dX8_enough_235 rfl ?_
                        refine j_bipush (v := (nI 12)) (pc' := 240) C dX8_enough_238 rfl (by decide +kernel) ?_
                        refine j_iload (pc' := 242) C dX8_enough_240 rfl 4 rfl ?_
                        refine j_iadd (v := (nI (12 + (k / 10)))) (pc' := 243) C dX8_enough_242 rfl (nI_add 12 (k / 10)) ?_
                        refine j_iconst (v := (nI 0)) (pc' := 244) C dX8_enough_243 rfl (by decide +kernel) ?_
                        refine j_nast (pc' := 245) C [(a0, .inr (8, [.int (nI 0), .ref aX, .int ty, .int sp, .int tk, .int pl, .int va, .int fa, .ref aT, .ref aD, .ref aS, .ref aU, .int um, .ref aK, .ref aI, .ref aL, .ref aE, .ref aF, .int sm, .ref aP, .ref aW, .int sn, .ref aB, .ref aM])), (aT, .inl (cyI, 42, .inl (nA t))), (aS, .inl (cyI, 30, .inl (nA (uN (uN (trE s (k / 10) (k % 10)) (3 + (k / 10)) 4) (12 + (k / 10)) 0)))), (aM, .inl (cyI, 3, .inl (nA mm)))] 2 rfl (by omega) (by decide) dX8_enough_244 rfl rfl ?_
                        refine j_w [(a0, .inr (8, [.int (nI 0), .ref aX, .int ty, .int sp, .int tk, .int pl, .int va, .int fa, .ref aT, .ref aD, .ref aS, .ref aU, .int um, .ref aK, .ref aI, .ref aL, .ref aE, .ref aF, .int sm, .ref aP, .ref aW, .int sn, .ref aB, .ref aM])), (aT, .inl (cyI, 42, .inl (nA t))), (aS, .inl (cyI, 30, .inl (nA s))), (aM, .inl (cyI, 3, .inl (nA mm)))] (by rw [trE_back c102 h3]) ?_
                        refine j_iinc (v := (nI (k + 1))) (pc' := 248) C [(4, .int (nI (k + 1))), (2, .int (nI (n + 1))), (3, .int f), (7, .int (bI (okE t (trE s (k / 10) (k % 10)) mm (t 2)))), (6, .int (nI (k % 10))), (5, .int (nI (k / 10))), (0, .ref a0), (1, .int (nI q))] dX8_enough_245 rfl 7 rfl (inc_n k 1) (by decide) rfl ?_
                        refine j_goto C 64 dX8_enough_248 (by decide) ?_
                        refine j_lsub [(0, .ref a0), (1, .int (nI q)), (2, .int (nI (n + 1))), (3, .int f), (4, .int (nI (k + 1)))] [6, 7, 1, 2, 0] rfl ?_
                        exact ih64 (k + 1) (n + 1) f (⟨by omega, by omega, by simp only [enF]; first | rw [if_neg (fun q9 => c102 q9.1), ← hn] | rw [if_neg (fun q9 => absurd q9.2 (by rw [c170]; decide)), ← hn, Nat.add_zero] | rw [if_pos ⟨c102, c170⟩, ← hn], by simp only [enF]; first | rw [if_neg (fun q9 => c102 q9.1), ← hf] | rw [if_neg (fun q9 => absurd q9.2 (by rw [c170]; decide)), ← hf] | (rw [if_pos ⟨c102, c170⟩]; simp only [← hn, ← hf]; first | rw [if_pos c174, trE_k, trE_b] | rw [if_neg c174])⟩) (by omega)
                    · refine j_bipush (v := (nI 100)) (pc' := 179) C dX8_enough_177 rfl (by decide +kernel) ?_
                      refine j_iload (pc' := 181) C dX8_enough_179 rfl 2 rfl ?_
                      refine j_imul (v := (nI (100 * (k / 10)))) (pc' := 182) C dX8_enough_181 rfl (pk_mul 100 (k / 10)) ?_
                      refine j_bipush (v := (nI 10)) (pc' := 184) C dX8_enough_182 rfl (by decide +kernel) ?_
                      refine j_aload_n (pc' := 185) C dX8_enough_184 rfl 3 rfl ?_
                      refine j_get (v := .ref aS) (pc' := 188) C KX8 0 10 rfl (by decide) fl_X8_19 rfl rfl dX8_enough_185 rfl ?_
                      refine j_iconst (v := (nI 3)) (pc' := 189) C dX8_enough_188 rfl (by decide +kernel) ?_
                      refine j_iload (pc' := 191) C dX8_enough_189 rfl 2 rfl ?_
                      refine j_iadd (v := (nI (3 + (k / 10)))) (pc' := 192) C dX8_enough_191 rfl (nI_add 3 (k / 10)) ?_
                      refine j_nald (pc' := 193) C 2 rfl (by omega) (by decide) dX8_enough_192 rfl ?_
                      refine j_imul (v := (nI (10 * ((trE s (k / 10) (k % 10)) (3 + (k / 10)))))) (pc' := 194) C dX8_enough_193 rfl (pk_mul 10 ((trE s (k / 10) (k % 10)) (3 + (k / 10)))) ?_
                      refine j_iadd (v := (nI ((100 * (k / 10)) + (10 * ((trE s (k / 10) (k % 10)) (3 + (k / 10))))))) (pc' := 195) C dX8_enough_194 rfl (nI_add (100 * (k / 10)) (10 * ((trE s (k / 10) (k % 10)) (3 + (k / 10))))) ?_
                      refine j_aload_n (pc' := 196) C dX8_enough_195 rfl 3 rfl ?_
                      refine j_get (v := .ref aS) (pc' := 199) C KX8 0 10 rfl (by decide) fl_X8_19 rfl rfl dX8_enough_196 rfl ?_
                      refine j_bipush (v := (nI 12)) (pc' := 201) C dX8_enough_199 rfl (by decide +kernel) ?_
                      refine j_iload (pc' := 203) C dX8_enough_201 rfl 2 rfl ?_
                      refine j_iadd (v := (nI (12 + (k / 10)))) (pc' := 204) C dX8_enough_203 rfl (nI_add 12 (k / 10)) ?_
                      refine j_nald (pc' := 205) C 2 rfl (by omega) (by decide) dX8_enough_204 rfl ?_
                      refine j_iadd (v := (nI (((100 * (k / 10)) + (10 * ((trE s (k / 10) (k % 10)) (3 + (k / 10))))) + ((trE s (k / 10) (k % 10)) (12 + (k / 10)))))) (pc' := 206) C dX8_enough_205 rfl (nI_add ((100 * (k / 10)) + (10 * ((trE s (k / 10) (k % 10)) (3 + (k / 10))))) ((trE s (k / 10) (k % 10)) (12 + (k / 10)))) ?_
                      refine j_goto C 210 dX8_enough_206 (by decide) ?_
                      refine j_istore_n (pc' := 211) C [(3, .int (nI (((100 * (k / 10)) + (10 * ((trE s (k / 10) (k % 10)) (3 + (k / 10))))) + ((trE s (k / 10) (k % 10)) (12 + (k / 10)))))), (7, .int (bI (okE t (trE s (k / 10) (k % 10)) mm (t 2)))), (6, .int (nI (k % 10))), (5, .int (nI (k / 10))), (0, .ref a0), (1, .int (nI q)), (2, .int (nI n)), (4, .int (nI k))] dX8_enough_210 rfl (by decide) rfl ?_
                      refine j_iload_n (pc' := 212) C dX8_enough_211 rfl 6 rfl ?_
                      refine j_iload (pc' := 214) C dX8_enough_212 rfl 1 rfl ?_
                      refine j_b_eq (pc' := 217) C 221 dX8_enough_214 (by decide) rfl (fun c214 => ?_) (fun c214 => ?_)
                      · exact absurd c214 (by rw [c170]; decide)
                      · refine j_iconst (v := (nI 1)) (pc' := 218) C dX8_enough_217 rfl (by decide +kernel) ?_
                        refine j_goto C 222 dX8_enough_218 (by decide) ?_
                        refine j_iadd (v := (nI (n + 1))) (pc' := 223) C dX8_enough_222 rfl (nI_add n 1) ?_
                        refine j_istore_n (pc' := 224) C [(2, .int (nI (n + 1))), (3, .int (nI (((100 * (k / 10)) + (10 * ((trE s (k / 10) (k % 10)) (3 + (k / 10))))) + ((trE s (k / 10) (k % 10)) (12 + (k / 10)))))), (7, .int (bI (okE t (trE s (k / 10) (k % 10)) mm (t 2)))), (6, .int (nI (k % 10))), (5, .int (nI (k / 10))), (0, .ref a0), (1, .int (nI q)), (4, .int (nI k))] dX8_enough_223 rfl (by decide) rfl ?_
                        refine j_aload_n (pc' := 225) C dX8_enough_224 rfl 5 rfl ?_
                        refine j_get (v := .ref aS) (pc' := 228) C KX8 0 10 rfl (by decide) fl_X8_19 rfl rfl dX8_enough_225 rfl ?_
                        refine j_iconst (v := (nI 3)) (pc' := 229) C dX8_enough_228 rfl (by decide +kernel) ?_
                        refine j_iload (pc' := 231) C dX8_enough_229 rfl 4 rfl ?_
                        refine j_iadd (v := (nI (3 + (k / 10)))) (pc' := 232) C dX8_enough_231 rfl (nI_add 3 (k / 10)) ?_
                        refine j_iconst (v := (nI 4)) (pc' := 233) C dX8_enough_232 rfl (by decide +kernel) ?_
                        refine j_nast (pc' := 234) C [(a0, .inr (8, [.int (nI 0), .ref aX, .int ty, .int sp, .int tk, .int pl, .int va, .int fa, .ref aT, .ref aD, .ref aS, .ref aU, .int um, .ref aK, .ref aI, .ref aL, .ref aE, .ref aF, .int sm, .ref aP, .ref aW, .int sn, .ref aB, .ref aM])), (aT, .inl (cyI, 42, .inl (nA t))), (aS, .inl (cyI, 30, .inl (nA (uN (trE s (k / 10) (k % 10)) (3 + (k / 10)) 4)))), (aM, .inl (cyI, 3, .inl (nA mm)))] 2 rfl (by omega) (by decide) dX8_enough_233 rfl rfl ?_
                        refine j_aload_n (pc' := 235) C dX8_enough_234 rfl 5 rfl ?_
                        refine j_get (v := .ref aS) (pc' := 238) C KX8 0 10 rfl (by decide) fl_X8_19 rfl rfl dX8_enough_235 rfl ?_
                        refine j_bipush (v := (nI 12)) (pc' := 240) C dX8_enough_238 rfl (by decide +kernel) ?_
                        refine j_iload (pc' := 242) C dX8_enough_240 rfl 4 rfl ?_
                        refine j_iadd (v := (nI (12 + (k / 10)))) (pc' := 243) C dX8_enough_242 rfl (nI_add 12 (k / 10)) ?_
                        refine j_iconst (v := (nI 0)) (pc' := 244) C dX8_enough_243 rfl (by decide +kernel) ?_
                        refine j_nast (pc' := 245) C [(a0, .inr (8, [.int (nI 0), .ref aX, .int ty, .int sp, .int tk, .int pl, .int va, .int fa, .ref aT, .ref aD, .ref aS, .ref aU, .int um, .ref aK, .ref aI, .ref aL, .ref aE, .ref aF, .int sm, .ref aP, .ref aW, .int sn, .ref aB, .ref aM])), (aT, .inl (cyI, 42, .inl (nA t))), (aS, .inl (cyI, 30, .inl (nA (uN (uN (trE s (k / 10) (k % 10)) (3 + (k / 10)) 4) (12 + (k / 10)) 0)))), (aM, .inl (cyI, 3, .inl (nA mm)))] 2 rfl (by omega) (by decide) dX8_enough_244 rfl rfl ?_
                        refine j_w [(a0, .inr (8, [.int (nI 0), .ref aX, .int ty, .int sp, .int tk, .int pl, .int va, .int fa, .ref aT, .ref aD, .ref aS, .ref aU, .int um, .ref aK, .ref aI, .ref aL, .ref aE, .ref aF, .int sm, .ref aP, .ref aW, .int sn, .ref aB, .ref aM])), (aT, .inl (cyI, 42, .inl (nA t))), (aS, .inl (cyI, 30, .inl (nA s))), (aM, .inl (cyI, 3, .inl (nA mm)))] (by rw [trE_back c102 h3]) ?_
                        refine j_iinc (v := (nI (k + 1))) (pc' := 248) C [(4, .int (nI (k + 1))), (2, .int (nI (n + 1))), (3, .int (nI (((100 * (k / 10)) + (10 * ((trE s (k / 10) (k % 10)) (3 + (k / 10))))) + ((trE s (k / 10) (k % 10)) (12 + (k / 10)))))), (7, .int (bI (okE t (trE s (k / 10) (k % 10)) mm (t 2)))), (6, .int (nI (k % 10))), (5, .int (nI (k / 10))), (0, .ref a0), (1, .int (nI q))] dX8_enough_245 rfl 7 rfl (inc_n k 1) (by decide) rfl ?_
                        refine j_goto C 64 dX8_enough_248 (by decide) ?_
                        refine j_lsub [(0, .ref a0), (1, .int (nI q)), (2, .int (nI (n + 1))), (3, .int (nI (((100 * (k / 10)) + (10 * ((trE s (k / 10) (k % 10)) (3 + (k / 10))))) + ((trE s (k / 10) (k % 10)) (12 + (k / 10)))))), (4, .int (nI (k + 1)))] [6, 7, 1, 2, 0] rfl ?_
                        exact ih64 (k + 1) (n + 1) (nI (((100 * (k / 10)) + (10 * ((trE s (k / 10) (k % 10)) (3 + (k / 10))))) + ((trE s (k / 10) (k % 10)) (12 + (k / 10))))) (⟨by omega, by omega, by simp only [enF]; first | rw [if_neg (fun q9 => c102 q9.1), ← hn] | rw [if_neg (fun q9 => absurd q9.2 (by rw [c170]; decide)), ← hn, Nat.add_zero] | rw [if_pos ⟨c102, c170⟩, ← hn], by simp only [enF]; first | rw [if_neg (fun q9 => c102 q9.1), ← hf] | rw [if_neg (fun q9 => absurd q9.2 (by rw [c170]; decide)), ← hf] | (rw [if_pos ⟨c102, c170⟩]; simp only [← hn, ← hf]; first | rw [if_pos c174, trE_k, trE_b] | rw [if_neg c174])⟩) (by omega)
                · exact absurd c146 (by first | omega | simp_all)
              · refine j_iload (pc' := 122) C dX8_enough_120 rfl 0 rfl ?_
                refine j_iconst (v := (nI 4)) (pc' := 123) C dX8_enough_122 rfl (by decide +kernel) ?_
                refine j_idiv (v := (nI ((k % 10) / 4))) (pc' := 124) C dX8_enough_123 rfl (nI_ne0 (by omega) (by omega)) (pk_div (by omega) (by omega) (by omega)) ?_
                refine j_goto C 132 dX8_enough_124 (by decide) ?_
                refine j_nast (pc' := 133) C [(a0, .inr (8, [.int (nI 0), .ref aX, .int ty, .int sp, .int tk, .int pl, .int va, .int fa, .ref aT, .ref aD, .ref aS, .ref aU, .int um, .ref aK, .ref aI, .ref aL, .ref aE, .ref aF, .int sm, .ref aP, .ref aW, .int sn, .ref aB, .ref aM])), (aT, .inl (cyI, 42, .inl (nA t))), (aS, .inl (cyI, 30, .inl (nA (uN s (3 + (k / 10)) ((k % 10) / 4))))), (aM, .inl (cyI, 3, .inl (nA mm)))] 2 rfl (by omega) (by decide) dX8_enough_132 rfl rfl ?_
                refine j_aload_n (pc' := 134) C dX8_enough_133 rfl 2 rfl ?_
                refine j_get (v := .ref aS) (pc' := 137) C KX8 0 10 rfl (by decide) fl_X8_19 rfl rfl dX8_enough_134 rfl ?_
                refine j_bipush (v := (nI 12)) (pc' := 139) C dX8_enough_137 rfl (by decide +kernel) ?_
                refine j_iload (pc' := 141) C dX8_enough_139 rfl 1 rfl ?_
                refine j_iadd (v := (nI (12 + (k / 10)))) (pc' := 142) C dX8_enough_141 rfl (nI_add 12 (k / 10)) ?_
                refine j_iload (pc' := 144) C dX8_enough_142 rfl 0 rfl ?_
                refine j_bipush (v := (nI 8)) (pc' := 146) C dX8_enough_144 rfl (by decide +kernel) ?_
                refine j_nc_ge (pc' := 149) C 156 dX8_enough_146 (by decide) rfl (by omega) (by omega) (fun c146 => ?_) (fun c146 => ?_)
                · exact absurd c146 (by first | omega | simp_all)
                · refine j_iload (pc' := 151) C dX8_enough_149 rfl 0 rfl ?_
                  refine j_iconst (v := (nI 4)) (pc' := 152) C dX8_enough_151 rfl (by decide +kernel) ?_
                  refine j_irem (v := (nI ((k % 10) % 4))) (pc' := 153) C dX8_enough_152 rfl (nI_ne0 (by omega) (by omega)) (pk_rem (by omega) (by omega) (by omega)) ?_
                  refine j_goto C 157 dX8_enough_153 (by decide) ?_
                  refine j_nast (pc' := 158) C [(a0, .inr (8, [.int (nI 0), .ref aX, .int ty, .int sp, .int tk, .int pl, .int va, .int fa, .ref aT, .ref aD, .ref aS, .ref aU, .int um, .ref aK, .ref aI, .ref aL, .ref aE, .ref aF, .int sm, .ref aP, .ref aW, .int sn, .ref aB, .ref aM])), (aT, .inl (cyI, 42, .inl (nA t))), (aS, .inl (cyI, 30, .inl (nA (uN (uN s (3 + (k / 10)) ((k % 10) / 4)) (12 + (k / 10)) ((k % 10) % 4))))), (aM, .inl (cyI, 3, .inl (nA mm)))] 2 rfl (by omega) (by decide) dX8_enough_157 rfl rfl ?_
                  refine j_w [(a0, .inr (8, [.int (nI 0), .ref aX, .int ty, .int sp, .int tk, .int pl, .int va, .int fa, .ref aT, .ref aD, .ref aS, .ref aU, .int um, .ref aK, .ref aI, .ref aL, .ref aE, .ref aF, .int sm, .ref aP, .ref aW, .int sn, .ref aB, .ref aM])), (aT, .inl (cyI, 42, .inl (nA t))), (aS, .inl (cyI, 30, .inl (nA (trE s (k / 10) (k % 10))))), (aM, .inl (cyI, 3, .inl (nA mm)))] (by unfold trE kdE byE; rw [if_pos c117, if_pos c117]) ?_
                  refine j_aload_n (pc' := 159) C dX8_enough_158 rfl 2 rfl ?_
                  refine j_aload_n (pc' := 160) C dX8_enough_159 rfl 2 rfl ?_
                  refine j_get (v := .ref aM) (pc' := 163) C KX8 0 23 rfl (by decide) fl_X8_50 rfl rfl dX8_enough_160 rfl ?_
                  refine j_cVi (As := [.ref aM]) (wr := []) (pc' := 166) C (c_X8_isEnough (a0 := a0) (th := (nI 0)) (aX := aX) (ty := ty) (sp := sp) (tk := tk) (pl := pl) (va := va) (fa := fa) (aT := aT) (aD := aD) (aS := aS) (aU := aU) (um := um) (aK := aK) (aI := aI) (aL := aL) (aE := aE) (aF := aF) (sm := sm) (aP := aP) (aW := aW) (sn := sn) (aB := aB) (aM := aM) (t := t) (s := trE s (k / 10) (k % 10)) (mi := mm) (hT := by first | assumption | omega) (hS := h4)) Y_X8_isEnough (ml_X8_185) [0, 1, 2, 3] [] rfl rfl rfl rfl (by decide) rfl rfl rfl dX8_enough_163 rfl rfl rfl (Nat.le_of_ble_eq_true rfl) ⟨Nat.le_of_ble_eq_true rfl, Nat.le_of_ble_eq_true rfl⟩ ⟨Nat.le_of_ble_eq_true rfl, Nat.le_of_ble_eq_true rfl⟩ ⟨rfl, rfl⟩ (fun r3 w1 hQ => ?_)
                  obtain ⟨rfl, rfl⟩ := hQ
                  refine j_istore (pc' := 168) C [(7, .int (bI (okE t (trE s (k / 10) (k % 10)) mm (t 2)))), (6, .int (nI (k % 10))), (5, .int (nI (k / 10))), (0, .ref a0), (1, .int (nI q)), (2, .int (nI n)), (3, .int f), (4, .int (nI k))] dX8_enough_166 rfl (by decide) rfl ?_
                  refine j_iload (pc' := 170) C dX8_enough_168 rfl 0 rfl ?_
                  refine j_b_eq (pc' := 173) C 209 dX8_enough_170 (by decide) rfl (fun c170 => ?_) (fun c170 => ?_)
                  · refine j_iload_n (pc' := 210) C dX8_enough_209 rfl 6 rfl ?_
                    refine j_istore_n (pc' := 211) C [(3, .int f), (7, .int (bI (okE t (trE s (k / 10) (k % 10)) mm (t 2)))), (6, .int (nI (k % 10))), (5, .int (nI (k / 10))), (0, .ref a0), (1, .int (nI q)), (2, .int (nI n)), (4, .int (nI k))] dX8_enough_210 rfl (by decide) rfl ?_
                    refine j_iload_n (pc' := 212) C dX8_enough_211 rfl 6 rfl ?_
                    refine j_iload (pc' := 214) C dX8_enough_212 rfl 1 rfl ?_
                    refine j_b_eq (pc' := 217) C 221 dX8_enough_214 (by decide) rfl (fun c214 => ?_) (fun c214 => ?_)
                    · refine j_iconst (v := (nI 0)) (pc' := 222) C dX8_enough_221 rfl (by decide +kernel) ?_
                      refine j_iadd (v := (nI (n + 0))) (pc' := 223) C dX8_enough_222 rfl (nI_add n 0) ?_
                      refine j_istore_n (pc' := 224) C [(2, .int (nI (n + 0))), (3, .int f), (7, .int (bI (okE t (trE s (k / 10) (k % 10)) mm (t 2)))), (6, .int (nI (k % 10))), (5, .int (nI (k / 10))), (0, .ref a0), (1, .int (nI q)), (4, .int (nI k))] dX8_enough_223 rfl (by decide) rfl ?_
                      refine j_aload_n (pc' := 225) C dX8_enough_224 rfl 5 rfl ?_
                      refine j_get (v := .ref aS) (pc' := 228) C KX8 0 10 rfl (by decide) fl_X8_19 rfl rfl dX8_enough_225 rfl ?_
                      refine j_iconst (v := (nI 3)) (pc' := 229) C dX8_enough_228 rfl (by decide +kernel) ?_
                      refine j_iload (pc' := 231) C dX8_enough_229 rfl 4 rfl ?_
                      refine j_iadd (v := (nI (3 + (k / 10)))) (pc' := 232) C dX8_enough_231 rfl (nI_add 3 (k / 10)) ?_
                      refine j_iconst (v := (nI 4)) (pc' := 233) C dX8_enough_232 rfl (by decide +kernel) ?_
                      refine j_nast (pc' := 234) C [(a0, .inr (8, [.int (nI 0), .ref aX, .int ty, .int sp, .int tk, .int pl, .int va, .int fa, .ref aT, .ref aD, .ref aS, .ref aU, .int um, .ref aK, .ref aI, .ref aL, .ref aE, .ref aF, .int sm, .ref aP, .ref aW, .int sn, .ref aB, .ref aM])), (aT, .inl (cyI, 42, .inl (nA t))), (aS, .inl (cyI, 30, .inl (nA (uN (trE s (k / 10) (k % 10)) (3 + (k / 10)) 4)))), (aM, .inl (cyI, 3, .inl (nA mm)))] 2 rfl (by omega) (by decide) dX8_enough_233 rfl rfl ?_
                      refine j_aload_n (pc' := 235) C dX8_enough_234 rfl 5 rfl ?_
                      refine j_get (v := .ref aS) (pc' := 238) C KX8 0 10 rfl (by decide) fl_X8_19 rfl rfl dX8_enough_235 rfl ?_
                      refine j_bipush (v := (nI 12)) (pc' := 240) C dX8_enough_238 rfl (by decide +kernel) ?_
                      refine j_iload (pc' := 242) C dX8_enough_240 rfl 4 rfl ?_
                      refine j_iadd (v := (nI (12 + (k / 10)))) (pc' := 243) C dX8_enough_242 rfl (nI_add 12 (k / 10)) ?_
                      refine j_iconst (v := (nI 0)) (pc' := 244) C dX8_enough_243 rfl (by decide +kernel) ?_
                      refine j_nast (pc' := 245) C [(a0, .inr (8, [.int (nI 0), .ref aX, .int ty, .int sp, .int tk, .int pl, .int va, .int fa, .ref aT, .ref aD, .ref aS, .ref aU, .int um, .ref aK, .ref aI, .ref aL, .ref aE, .ref aF, .int sm, .ref aP, .ref aW, .int sn, .ref aB, .ref aM])), (aT, .inl (cyI, 42, .inl (nA t))), (aS, .inl (cyI, 30, .inl (nA (uN (uN (trE s (k / 10) (k % 10)) (3 + (k / 10)) 4) (12 + (k / 10)) 0)))), (aM, .inl (cyI, 3, .inl (nA mm)))] 2 rfl (by omega) (by decide) dX8_enough_244 rfl rfl ?_
                      refine j_w [(a0, .inr (8, [.int (nI 0), .ref aX, .int ty, .int sp, .int tk, .int pl, .int va, .int fa, .ref aT, .ref aD, .ref aS, .ref aU, .int um, .ref aK, .ref aI, .ref aL, .ref aE, .ref aF, .int sm, .ref aP, .ref aW, .int sn, .ref aB, .ref aM])), (aT, .inl (cyI, 42, .inl (nA t))), (aS, .inl (cyI, 30, .inl (nA s))), (aM, .inl (cyI, 3, .inl (nA mm)))] (by rw [trE_back c102 h3]) ?_
                      refine j_iinc (v := (nI (k + 1))) (pc' := 248) C [(4, .int (nI (k + 1))), (2, .int (nI (n + 0))), (3, .int f), (7, .int (bI (okE t (trE s (k / 10) (k % 10)) mm (t 2)))), (6, .int (nI (k % 10))), (5, .int (nI (k / 10))), (0, .ref a0), (1, .int (nI q))] dX8_enough_245 rfl 7 rfl (inc_n k 1) (by decide) rfl ?_
                      refine j_goto C 64 dX8_enough_248 (by decide) ?_
                      refine j_lsub [(0, .ref a0), (1, .int (nI q)), (2, .int (nI (n + 0))), (3, .int f), (4, .int (nI (k + 1)))] [6, 7, 1, 2, 0] rfl ?_
                      exact ih64 (k + 1) (n + 0) f (⟨by omega, by omega, by simp only [enF]; first | rw [if_neg (fun q9 => c102 q9.1), ← hn] | rw [if_neg (fun q9 => absurd q9.2 (by rw [c170]; decide)), ← hn, Nat.add_zero] | rw [if_pos ⟨c102, c170⟩, ← hn], by simp only [enF]; first | rw [if_neg (fun q9 => c102 q9.1), ← hf] | rw [if_neg (fun q9 => absurd q9.2 (by rw [c170]; decide)), ← hf] | (rw [if_pos ⟨c102, c170⟩]; simp only [← hn, ← hf]; first | rw [if_pos c174, trE_k, trE_b] | rw [if_neg c174])⟩) (by omega)
                    · exact absurd c214 (by rw [c170]; decide)
                  · refine j_iload_n (pc' := 174) C dX8_enough_173 rfl 5 rfl ?_
                    refine j_nz_ne (pc' := 177) C 209 dX8_enough_174 (by decide) rfl (by omega) (fun c174 => ?_) (fun c174 => ?_)
                    · refine j_iload_n (pc' := 210) C dX8_enough_209 rfl 6 rfl ?_
                      refine j_istore_n (pc' := 211) C [(3, .int f), (7, .int (bI (okE t (trE s (k / 10) (k % 10)) mm (t 2)))), (6, .int (nI (k % 10))), (5, .int (nI (k / 10))), (0, .ref a0), (1, .int (nI q)), (2, .int (nI n)), (4, .int (nI k))] dX8_enough_210 rfl (by decide) rfl ?_
                      refine j_iload_n (pc' := 212) C dX8_enough_211 rfl 6 rfl ?_
                      refine j_iload (pc' := 214) C dX8_enough_212 rfl 1 rfl ?_
                      refine j_b_eq (pc' := 217) C 221 dX8_enough_214 (by decide) rfl (fun c214 => ?_) (fun c214 => ?_)
                      · exact absurd c214 (by rw [c170]; decide)
                      · refine j_iconst (v := (nI 1)) (pc' := 218) C dX8_enough_217 rfl (by decide +kernel) ?_
                        refine j_goto C 222 dX8_enough_218 (by decide) ?_
                        refine j_iadd (v := (nI (n + 1))) (pc' := 223) C dX8_enough_222 rfl (nI_add n 1) ?_
                        refine j_istore_n (pc' := 224) C [(2, .int (nI (n + 1))), (3, .int f), (7, .int (bI (okE t (trE s (k / 10) (k % 10)) mm (t 2)))), (6, .int (nI (k % 10))), (5, .int (nI (k / 10))), (0, .ref a0), (1, .int (nI q)), (4, .int (nI k))] dX8_enough_223 rfl (by decide) rfl ?_
                        refine j_aload_n (pc' := 225) C dX8_enough_224 rfl 5 rfl ?_
                        refine j_get (v := .ref aS) (pc' := 228) C KX8 0 10 rfl (by decide) fl_X8_19 rfl rfl dX8_enough_225 rfl ?_
                        refine j_iconst (v := (nI 3)) (pc' := 229) C dX8_enough_228 rfl (by decide +kernel) ?_
                        refine j_iload (pc' := 231) C dX8_enough_229 rfl 4 rfl ?_
                        refine j_iadd (v := (nI (3 + (k / 10)))) (pc' := 232) C dX8_enough_231 rfl (nI_add 3 (k / 10)) ?_
                        refine j_iconst (v := (nI 4)) (pc' := 233) C dX8_enough_232 rfl (by decide +kernel) ?_
                        refine j_nast (pc' := 234) C [(a0, .inr (8, [.int (nI 0), .ref aX, .int ty, .int sp, .int tk, .int pl, .int va, .int fa, .ref aT, .ref aD, .ref aS, .ref aU, .int um, .ref aK, .ref aI, .ref aL, .ref aE, .ref aF, .int sm, .ref aP, .ref aW, .int sn, .ref aB, .ref aM])), (aT, .inl (cyI, 42, .inl (nA t))), (aS, .inl (cyI, 30, .inl (nA (uN (trE s (k / 10) (k % 10)) (3 + (k / 10)) 4)))), (aM, .inl (cyI, 3, .inl (nA mm)))] 2 rfl (by omega) (by decide) dX8_enough_233 rfl rfl ?_
                        refine j_aload_n (pc' := 235) C dX8_enough_234 rfl 5 rfl ?_
                        refine j_get (v := .ref aS) (pc' := 238) C KX8 0 10 rfl (by decide) fl_X8_19 rfl rfl dX8_enough_235 rfl ?_
                        refine j_bipush (v := (nI 12)) (pc' := 240) C dX8_enough_238 rfl (by decide +kernel) ?_
                        refine j_iload (pc' := 242) C dX8_enough_240 rfl 4 rfl ?_
                        refine j_iadd (v := (nI (12 + (k / 10)))) (pc' := 243) C dX8_enough_242 rfl (nI_add 12 (k / 10)) ?_
                        refine j_iconst (v := (nI 0)) (pc' := 244) C dX8_enough_243 rfl (by decide +kernel) ?_
                        refine j_nast (pc' := 245) C [(a0, .inr (8, [.int (nI 0), .ref aX, .int ty, .int sp, .int tk, .int pl, .int va, .int fa, .ref aT, .ref aD, .ref aS, .ref aU, .int um, .ref aK, .ref aI, .ref aL, .ref aE, .ref aF, .int sm, .ref aP, .ref aW, .int sn, .ref aB, .ref aM])), (aT, .inl (cyI, 42, .inl (nA t))), (aS, .inl (cyI, 30, .inl (nA (uN (uN (trE s (k / 10) (k % 10)) (3 + (k / 10)) 4) (12 + (k / 10)) 0)))), (aM, .inl (cyI, 3, .inl (nA mm)))] 2 rfl (by omega) (by decide) dX8_enough_244 rfl rfl ?_
                        refine j_w [(a0, .inr (8, [.int (nI 0), .ref aX, .int ty, .int sp, .int tk, .int pl, .int va, .int fa, .ref aT, .ref aD, .ref aS, .ref aU, .int um, .ref aK, .ref aI, .ref aL, .ref aE, .ref aF, .int sm, .ref aP, .ref aW, .int sn, .ref aB, .ref aM])), (aT, .inl (cyI, 42, .inl (nA t))), (aS, .inl (cyI, 30, .inl (nA s))), (aM, .inl (cyI, 3, .inl (nA mm)))] (by rw [trE_back c102 h3]) ?_
                        refine j_iinc (v := (nI (k + 1))) (pc' := 248) C [(4, .int (nI (k + 1))), (2, .int (nI (n + 1))), (3, .int f), (7, .int (bI (okE t (trE s (k / 10) (k % 10)) mm (t 2)))), (6, .int (nI (k % 10))), (5, .int (nI (k / 10))), (0, .ref a0), (1, .int (nI q))] dX8_enough_245 rfl 7 rfl (inc_n k 1) (by decide) rfl ?_
                        refine j_goto C 64 dX8_enough_248 (by decide) ?_
                        refine j_lsub [(0, .ref a0), (1, .int (nI q)), (2, .int (nI (n + 1))), (3, .int f), (4, .int (nI (k + 1)))] [6, 7, 1, 2, 0] rfl ?_
                        exact ih64 (k + 1) (n + 1) f (⟨by omega, by omega, by simp only [enF]; first | rw [if_neg (fun q9 => c102 q9.1), ← hn] | rw [if_neg (fun q9 => absurd q9.2 (by rw [c170]; decide)), ← hn, Nat.add_zero] | rw [if_pos ⟨c102, c170⟩, ← hn], by simp only [enF]; first | rw [if_neg (fun q9 => c102 q9.1), ← hf] | rw [if_neg (fun q9 => absurd q9.2 (by rw [c170]; decide)), ← hf] | (rw [if_pos ⟨c102, c170⟩]; simp only [← hn, ← hf]; first | rw [if_pos c174, trE_k, trE_b] | rw [if_neg c174])⟩) (by omega)
                    · refine j_bipush (v := (nI 100)) (pc' := 179) C dX8_enough_177 rfl (by decide +kernel) ?_
                      refine j_iload (pc' := 181) C dX8_enough_179 rfl 2 rfl ?_
                      refine j_imul (v := (nI (100 * (k / 10)))) (pc' := 182) C dX8_enough_181 rfl (pk_mul 100 (k / 10)) ?_
                      refine j_bipush (v := (nI 10)) (pc' := 184) C dX8_enough_182 rfl (by decide +kernel) ?_
                      refine j_aload_n (pc' := 185) C dX8_enough_184 rfl 3 rfl ?_
                      refine j_get (v := .ref aS) (pc' := 188) C KX8 0 10 rfl (by decide) fl_X8_19 rfl rfl dX8_enough_185 rfl ?_
                      refine j_iconst (v := (nI 3)) (pc' := 189) C dX8_enough_188 rfl (by decide +kernel) ?_
                      refine j_iload (pc' := 191) C dX8_enough_189 rfl 2 rfl ?_
                      refine j_iadd (v := (nI (3 + (k / 10)))) (pc' := 192) C dX8_enough_191 rfl (nI_add 3 (k / 10)) ?_
                      refine j_nald (pc' := 193) C 2 rfl (by omega) (by decide) dX8_enough_192 rfl ?_
                      refine j_imul (v := (nI (10 * ((trE s (k / 10) (k % 10)) (3 + (k / 10)))))) (pc' := 194) C dX8_enough_193 rfl (pk_mul 10 ((trE s (k / 10) (k % 10)) (3 + (k / 10)))) ?_
                      refine j_iadd (v := (nI ((100 * (k / 10)) + (10 * ((trE s (k / 10) (k % 10)) (3 + (k / 10))))))) (pc' := 195) C dX8_enough_194 rfl (nI_add (100 * (k / 10)) (10 * ((trE s (k / 10) (k % 10)) (3 + (k / 10))))) ?_
                      refine j_aload_n (pc' := 196) C dX8_enough_195 rfl 3 rfl ?_
                      refine j_get (v := .ref aS) (pc' := 199) C KX8 0 10 rfl (by decide) fl_X8_19 rfl rfl dX8_enough_196 rfl ?_
                      refine j_bipush (v := (nI 12)) (pc' := 201) C dX8_enough_199 rfl (by decide +kernel) ?_
                      refine j_iload (pc' := 203) C dX8_enough_201 rfl 2 rfl ?_
                      refine j_iadd (v := (nI (12 + (k / 10)))) (pc' := 204) C dX8_enough_203 rfl (nI_add 12 (k / 10)) ?_
                      refine j_nald (pc' := 205) C 2 rfl (by omega) (by decide) dX8_enough_204 rfl ?_
                      refine j_iadd (v := (nI (((100 * (k / 10)) + (10 * ((trE s (k / 10) (k % 10)) (3 + (k / 10))))) + ((trE s (k / 10) (k % 10)) (12 + (k / 10)))))) (pc' := 206) C dX8_enough_205 rfl (nI_add ((100 * (k / 10)) + (10 * ((trE s (k / 10) (k % 10)) (3 + (k / 10))))) ((trE s (k / 10) (k % 10)) (12 + (k / 10)))) ?_
                      refine j_goto C 210 dX8_enough_206 (by decide) ?_
                      refine j_istore_n (pc' := 211) C [(3, .int (nI (((100 * (k / 10)) + (10 * ((trE s (k / 10) (k % 10)) (3 + (k / 10))))) + ((trE s (k / 10) (k % 10)) (12 + (k / 10)))))), (7, .int (bI (okE t (trE s (k / 10) (k % 10)) mm (t 2)))), (6, .int (nI (k % 10))), (5, .int (nI (k / 10))), (0, .ref a0), (1, .int (nI q)), (2, .int (nI n)), (4, .int (nI k))] dX8_enough_210 rfl (by decide) rfl ?_
                      refine j_iload_n (pc' := 212) C dX8_enough_211 rfl 6 rfl ?_
                      refine j_iload (pc' := 214) C dX8_enough_212 rfl 1 rfl ?_
                      refine j_b_eq (pc' := 217) C 221 dX8_enough_214 (by decide) rfl (fun c214 => ?_) (fun c214 => ?_)
                      · exact absurd c214 (by rw [c170]; decide)
                      · refine j_iconst (v := (nI 1)) (pc' := 218) C dX8_enough_217 rfl (by decide +kernel) ?_
                        refine j_goto C 222 dX8_enough_218 (by decide) ?_
                        refine j_iadd (v := (nI (n + 1))) (pc' := 223) C dX8_enough_222 rfl (nI_add n 1) ?_
                        refine j_istore_n (pc' := 224) C [(2, .int (nI (n + 1))), (3, .int (nI (((100 * (k / 10)) + (10 * ((trE s (k / 10) (k % 10)) (3 + (k / 10))))) + ((trE s (k / 10) (k % 10)) (12 + (k / 10)))))), (7, .int (bI (okE t (trE s (k / 10) (k % 10)) mm (t 2)))), (6, .int (nI (k % 10))), (5, .int (nI (k / 10))), (0, .ref a0), (1, .int (nI q)), (4, .int (nI k))] dX8_enough_223 rfl (by decide) rfl ?_
                        refine j_aload_n (pc' := 225) C dX8_enough_224 rfl 5 rfl ?_
                        refine j_get (v := .ref aS) (pc' := 228) C KX8 0 10 rfl (by decide) fl_X8_19 rfl rfl dX8_enough_225 rfl ?_
                        refine j_iconst (v := (nI 3)) (pc' := 229) C dX8_enough_228 rfl (by decide +kernel) ?_
                        refine j_iload (pc' := 231) C dX8_enough_229 rfl 4 rfl ?_
                        refine j_iadd (v := (nI (3 + (k / 10)))) (pc' := 232) C dX8_enough_231 rfl (nI_add 3 (k / 10)) ?_
                        refine j_iconst (v := (nI 4)) (pc' := 233) C dX8_enough_232 rfl (by decide +kernel) ?_
                        refine j_nast (pc' := 234) C [(a0, .inr (8, [.int (nI 0), .ref aX, .int ty, .int sp, .int tk, .int pl, .int va, .int fa, .ref aT, .ref aD, .ref aS, .ref aU, .int um, .ref aK, .ref aI, .ref aL, .ref aE, .ref aF, .int sm, .ref aP, .ref aW, .int sn, .ref aB, .ref aM])), (aT, .inl (cyI, 42, .inl (nA t))), (aS, .inl (cyI, 30, .inl (nA (uN (trE s (k / 10) (k % 10)) (3 + (k / 10)) 4)))), (aM, .inl (cyI, 3, .inl (nA mm)))] 2 rfl (by omega) (by decide) dX8_enough_233 rfl rfl ?_
                        refine j_aload_n (pc' := 235) C dX8_enough_234 rfl 5 rfl ?_
                        refine j_get (v := .ref aS) (pc' := 238) C KX8 0 10 rfl (by decide) fl_X8_19 rfl rfl dX8_enough_235 rfl ?_
                        refine j_bipush (v := (nI 12)) (pc' := 240) C dX8_enough_238 rfl (by decide +kernel) ?_
                        refine j_iload (pc' := 242) C dX8_enough_240 rfl 4 rfl ?_
                        refine j_iadd (v := (nI (12 + (k / 10)))) (pc' := 243) C dX8_enough_242 rfl (nI_add 12 (k / 10)) ?_
                        refine j_iconst (v := (nI 0)) (pc' := 244) C dX8_enough_243 rfl (by decide +kernel) ?_
                        refine j_nast (pc' := 245) C [(a0, .inr (8, [.int (nI 0), .ref aX, .int ty, .int sp, .int tk, .int pl, .int va, .int fa, .ref aT, .ref aD, .ref aS, .ref aU, .int um, .ref aK, .ref aI, .ref aL, .ref aE, .ref aF, .int sm, .ref aP, .ref aW, .int sn, .ref aB, .ref aM])), (aT, .inl (cyI, 42, .inl (nA t))), (aS, .inl (cyI, 30, .inl (nA (uN (uN (trE s (k / 10) (k % 10)) (3 + (k / 10)) 4) (12 + (k / 10)) 0)))), (aM, .inl (cyI, 3, .inl (nA mm)))] 2 rfl (by omega) (by decide) dX8_enough_244 rfl rfl ?_
                        refine j_w [(a0, .inr (8, [.int (nI 0), .ref aX, .int ty, .int sp, .int tk, .int pl, .int va, .int fa, .ref aT, .ref aD, .ref aS, .ref aU, .int um, .ref aK, .ref aI, .ref aL, .ref aE, .ref aF, .int sm, .ref aP, .ref aW, .int sn, .ref aB, .ref aM])), (aT, .inl (cyI, 42, .inl (nA t))), (aS, .inl (cyI, 30, .inl (nA s))), (aM, .inl (cyI, 3, .inl (nA mm)))] (by rw [trE_back c102 h3]) ?_
                        refine j_iinc (v := (nI (k + 1))) (pc' := 248) C [(4, .int (nI (k + 1))), (2, .int (nI (n + 1))), (3, .int (nI (((100 * (k / 10)) + (10 * ((trE s (k / 10) (k % 10)) (3 + (k / 10))))) + ((trE s (k / 10) (k % 10)) (12 + (k / 10)))))), (7, .int (bI (okE t (trE s (k / 10) (k % 10)) mm (t 2)))), (6, .int (nI (k % 10))), (5, .int (nI (k / 10))), (0, .ref a0), (1, .int (nI q))] dX8_enough_245 rfl 7 rfl (inc_n k 1) (by decide) rfl ?_
                        refine j_goto C 64 dX8_enough_248 (by decide) ?_
                        refine j_lsub [(0, .ref a0), (1, .int (nI q)), (2, .int (nI (n + 1))), (3, .int (nI (((100 * (k / 10)) + (10 * ((trE s (k / 10) (k % 10)) (3 + (k / 10))))) + ((trE s (k / 10) (k % 10)) (12 + (k / 10)))))), (4, .int (nI (k + 1)))] [6, 7, 1, 2, 0] rfl ?_
                        exact ih64 (k + 1) (n + 1) (nI (((100 * (k / 10)) + (10 * ((trE s (k / 10) (k % 10)) (3 + (k / 10))))) + ((trE s (k / 10) (k % 10)) (12 + (k / 10))))) (⟨by omega, by omega, by simp only [enF]; first | rw [if_neg (fun q9 => c102 q9.1), ← hn] | rw [if_neg (fun q9 => absurd q9.2 (by rw [c170]; decide)), ← hn, Nat.add_zero] | rw [if_pos ⟨c102, c170⟩, ← hn], by simp only [enF]; first | rw [if_neg (fun q9 => c102 q9.1), ← hf] | rw [if_neg (fun q9 => absurd q9.2 (by rw [c170]; decide)), ← hf] | (rw [if_pos ⟨c102, c170⟩]; simp only [← hn, ← hf]; first | rw [if_pos c174, trE_k, trE_b] | rw [if_neg c174])⟩) (by omega)
        · exact ⟨Nat.zero_le _, Nat.le_refl _, rfl, rfl⟩
      · have hw := hS.1 i (by omega)
        refine j_aload_n (pc' := 29) C dX8_enough_28 rfl 0 rfl ?_
        refine j_get (v := .ref aM) (pc' := 32) C KX8 0 23 rfl (by decide) fl_X8_50 rfl rfl dX8_enough_29 rfl ?_
        refine j_iload_n (pc' := 33) C dX8_enough_32 rfl 2 rfl ?_
        refine j_aload_n (pc' := 34) C dX8_enough_33 rfl 0 rfl ?_
        refine j_get (v := .ref aS) (pc' := 37) C KX8 0 10 rfl (by decide) fl_X8_19 rfl rfl dX8_enough_34 rfl ?_
        refine j_iconst (v := (nI 0)) (pc' := 38) C dX8_enough_37 rfl (by decide +kernel) ?_
        refine j_iload_n (pc' := 39) C dX8_enough_38 rfl 2 rfl ?_
        refine j_iadd (v := (nI i)) (pc' := 40) C dX8_enough_39 rfl (add_0I i) ?_
        refine j_nald (pc' := 41) C 2 rfl (by omega) (by decide) dX8_enough_40 rfl ?_
        refine j_aload_n (pc' := 42) C dX8_enough_41 rfl 0 rfl ?_
        refine j_iload_n (pc' := 43) C dX8_enough_42 rfl 2 rfl ?_
        refine j_cVi (As := [.int (nI i)]) (wr := [(aM, .inl (cyI, 3, .inl (nA mm)))]) (pc' := 46) C (c_X8_fedIn (a0 := a0) (th := (nI 0)) (aX := aX) (ty := ty) (sp := sp) (tk := tk) (pl := pl) (va := va) (fa := fa) (aT := aT) (aD := aD) (aS := aS) (aU := aU) (um := um) (aK := aK) (aI := aI) (aL := aL) (aE := aE) (aF := aF) (sm := sm) (aP := aP) (aW := aW) (sn := sn) (aB := aB) (aM := aM) (t := t) (s := s) (l := i) (hT := by first | assumption | omega) (hS := by first | assumption | omega) (hl := by first | assumption | omega)) Y_X8_fedIn (ml_X8_121) [0, 1, 2] [3] rfl rfl rfl rfl (by decide) rfl rfl rfl dX8_enough_43 rfl rfl rfl (Nat.le_of_ble_eq_true rfl) ⟨Nat.le_of_ble_eq_true rfl, Nat.le_of_ble_eq_true rfl⟩ ⟨Nat.le_of_ble_eq_true rfl, Nat.le_of_ble_eq_true rfl⟩ ⟨rfl, rfl⟩ (fun r4 w1 hQ => ?_)
        obtain ⟨rfl, rfl⟩ := hQ
        refine j_perm [(a0, .inr (8, [.int (nI 0), .ref aX, .int ty, .int sp, .int tk, .int pl, .int va, .int fa, .ref aT, .ref aD, .ref aS, .ref aU, .int um, .ref aK, .ref aI, .ref aL, .ref aE, .ref aF, .int sm, .ref aP, .ref aW, .int sn, .ref aB, .ref aM])), (aT, .inl (cyI, 42, .inl (nA t))), (aS, .inl (cyI, 30, .inl (nA s))), (aM, .inl (cyI, 3, .inl (nA mm)))] [1, 2, 3, 0] rfl rfl (by decide) ?_
        refine j_iconst (v := (nI 4294967295)) (pc' := 47) C dX8_enough_46 rfl (by decide +kernel) ?_
        refine j_ixor (v := (nI ((fedN t s i) ^^^ 4294967295))) (pc' := 48) C dX8_enough_47 rfl (fb_xorI (fedN t s i) 4294967295) ?_
        refine j_iand (v := (nI ((s i) &&& ((fedN t s i) ^^^ 4294967295)))) (pc' := 49) C dX8_enough_48 rfl (fa_and (s i) ((fedN t s i) ^^^ 4294967295)) ?_
        refine j_nast (pc' := 50) C [(a0, .inr (8, [.int (nI 0), .ref aX, .int ty, .int sp, .int tk, .int pl, .int va, .int fa, .ref aT, .ref aD, .ref aS, .ref aU, .int um, .ref aK, .ref aI, .ref aL, .ref aE, .ref aF, .int sm, .ref aP, .ref aW, .int sn, .ref aB, .ref aM])), (aT, .inl (cyI, 42, .inl (nA t))), (aS, .inl (cyI, 30, .inl (nA s))), (aM, .inl (cyI, 3, .inl (nA (uN mm i ((s i) &&& ((fedN t s i) ^^^ 4294967295))))))] 3 rfl (by omega) (by decide) dX8_enough_49 rfl rfl ?_
        refine j_iinc (v := (nI (i + 1))) (pc' := 53) C [(2, .int (nI (i + 1))), (0, .ref a0), (1, .int (nI q))] dX8_enough_50 rfl 2 rfl (inc_n i 1) (by decide) rfl ?_
        refine j_goto C 18 dX8_enough_53 (by decide) ?_
        refine j_lsub [(0, .ref a0), (1, .int (nI q)), (2, .int (nI (i + 1)))] [1, 2, 0] rfl ?_
        exact ih18 (i + 1) (uN mm i ((s i) &&& ((fedN t s i) ^^^ 4294967295))) (⟨by omega, by rw [hmm, ← flN_s]; simp only [Nat.zero_add]; rfl⟩) (by omega)
    · exact ⟨Nat.zero_le _, (flN_0 _ _ _).symm⟩
  · rw [in_R2 _ _ (by omega)] at c11
    refine j_iconst (v := (-1)) (pc' := 15) C dX8_enough_14 rfl (by decide +kernel) ?_
    exact j_iret C hr hk hA dX8_enough_15 (rfl) (⟨mi, rfl, by unfold enQ; rw [if_pos c11]⟩)

set_option maxHeartbeats 4000000 in
set_option maxRecDepth 100000 in
theorem c_X8_flash {lch : Launch} {dG : va_G} {cyI cyZ cyO : ClassId} (a0 : Nat) (th : Int32) (aX : Nat) (ty : Int32) (sp : Int32) (tk : Int32) (pl : Int32) (va : Int32) (fa : Int32) (aT : Nat) (aD : Nat) (aS : Nat) (aU : Nat) (um : Int32) (aK : Nat) (aI : Nat) (aL : Nat) (aE : Nat) (aF : Nat) (sm : Int32) (aP : Nat) (aW : Nat) (sn : Int32) (aB : Nat) (aM : Nat) (t : Nat → Nat) (s : Nat → Nat) (l : Int32) (v : Int32) (w : Int32) (hT : WT t) (hS : WS s) : Ki lch yX8_flash cX8_flash 8 .int (rmk 6) dG (cyI, cyZ, cyO) [.ref a0, .int l, .int v, .int w] [(a0, .inr (8, [.int th, .ref aX, .int ty, .int sp, .int tk, .int pl, .int va, .int fa, .ref aT, .ref aD, .ref aS, .ref aU, .int um, .ref aK, .ref aI, .ref aL, .ref aE, .ref aF, .int sm, .ref aP, .ref aW, .int sn, .ref aB, .ref aM])), (aT, .inl (cyI, 42, .inl (nA t))), (aS, .inl (cyI, 30, .inl (nA s)))] (fun r w1 => w1 = [(a0, .inr (8, [.int (nI 0), .ref aX, .int ty, .int sp, .int tk, .int pl, .int va, .int fa, .ref aT, .ref aD, .ref aS, .ref aU, .int um, .ref aK, .ref aI, .ref aL, .ref aE, .ref aF, .int sm, .ref aP, .ref aW, .int sn, .ref aB, .ref aM])), (aT, .inl (cyI, 42, .inl (nA t))), (aS, .inl (cyI, 30, .inl (nA s)))] ∧ r = (faQ t s l v w)) := by
  have h1 := hT.n
  refine Ki.of (own := RX8) rfl (by decide) (Nat.le_of_ble_eq_true rfl) (fun p0 e0 s0 m0 ar0 be0 me0 cd0 A0 C hr hk hnm hA => ?_)
  refine j_lsub [(0, .ref a0), (1, .int l), (2, .int v), (3, .int w)] [0, 1, 2, 3] rfl ?_
  refine j_aload_n (pc' := 1) C dX8_flash_0 rfl 0 rfl ?_
  refine j_iconst (v := (nI 0)) (pc' := 2) C dX8_flash_1 rfl (by decide +kernel) ?_
  refine j_put (pc' := 5) C [(a0, .inr (8, [.int (nI 0), .ref aX, .int ty, .int sp, .int tk, .int pl, .int va, .int fa, .ref aT, .ref aD, .ref aS, .ref aU, .int um, .ref aK, .ref aI, .ref aL, .ref aE, .ref aF, .int sm, .ref aP, .ref aW, .int sn, .ref aB, .ref aM])), (aT, .inl (cyI, 42, .inl (nA t))), (aS, .inl (cyI, 30, .inl (nA s)))] KX8 0 0 rfl (by decide) fl_X8_59 rfl rfl rfl rfl (Nat.le_of_ble_eq_true rfl) dX8_flash_2 rfl rfl ?_
  refine j_aload_n (pc' := 6) C dX8_flash_5 rfl 0 rfl ?_
  refine j_iload_n (pc' := 7) C dX8_flash_6 rfl 1 rfl ?_
  refine j_cVi (As := [.int l]) (wr := [(aS, .inl (cyI, 30, .inl (nA s)))]) (pc' := 10) C (c_X8_isLoad (a0 := a0) (th := (nI 0)) (aX := aX) (ty := ty) (sp := sp) (tk := tk) (pl := pl) (va := va) (fa := fa) (aT := aT) (aD := aD) (aS := aS) (aU := aU) (um := um) (aK := aK) (aI := aI) (aL := aL) (aE := aE) (aF := aF) (sm := sm) (aP := aP) (aW := aW) (sn := sn) (aB := aB) (aM := aM) (t := t) (v := l) (hT := by first | assumption | omega)) Y_X8_isLoad (ml_X8_150) [0, 1] [2] rfl rfl rfl rfl (by decide) rfl rfl rfl dX8_flash_7 rfl rfl rfl (Nat.le_of_ble_eq_true rfl) ⟨Nat.le_of_ble_eq_true rfl, Nat.le_of_ble_eq_true rfl⟩ ⟨Nat.le_of_ble_eq_true rfl, Nat.le_of_ble_eq_true rfl⟩ ⟨rfl, rfl⟩ (fun r1 w1 hQ => ?_)
  obtain ⟨rfl, rfl⟩ := hQ
  refine j_perm [(a0, .inr (8, [.int (nI 0), .ref aX, .int ty, .int sp, .int tk, .int pl, .int va, .int fa, .ref aT, .ref aD, .ref aS, .ref aU, .int um, .ref aK, .ref aI, .ref aL, .ref aE, .ref aF, .int sm, .ref aP, .ref aW, .int sn, .ref aB, .ref aM])), (aT, .inl (cyI, 42, .inl (nA t))), (aS, .inl (cyI, 30, .inl (nA s)))] [1, 2, 0] rfl rfl (by decide) ?_
  refine j_b_eq (pc' := 13) C 27 dX8_flash_10 (by decide) rfl (fun c10 => ?_) (fun c10 => ?_)
  · refine j_iconst (v := (-1)) (pc' := 28) C dX8_flash_27 rfl (by decide +kernel) ?_
    exact j_iret C hr hk hA dX8_flash_28 (rfl) (⟨rfl, by unfold faQ; rw [if_pos (by simp_all)]⟩)
  · obtain ⟨j, hj, rfl⟩ := inR_t c10 (by omega)
    refine j_iload_n (pc' := 14) C dX8_flash_13 rfl 2 rfl ?_
    refine j_cSi (As := [.int v]) (wr := [(a0, .inr (8, [.int (nI 0), .ref aX, .int ty, .int sp, .int tk, .int pl, .int va, .int fa, .ref aT, .ref aD, .ref aS, .ref aU, .int um, .ref aK, .ref aI, .ref aL, .ref aE, .ref aF, .int sm, .ref aP, .ref aW, .int sn, .ref aB, .ref aM])), (aT, .inl (cyI, 42, .inl (nA t))), (aS, .inl (cyI, 30, .inl (nA s)))]) (pc' := 17) C (c_X8_isState (v := v) ) Y_X8_isState (ml_X8_179) [] [0, 1, 2] rfl rfl rfl rfl (by decide) dX8_flash_14 rfl rfl rfl (Nat.le_of_ble_eq_true rfl) ⟨Nat.le_of_ble_eq_true rfl, Nat.le_of_ble_eq_true rfl⟩ ⟨Nat.le_of_ble_eq_true rfl, Nat.le_of_ble_eq_true rfl⟩ ⟨rfl, rfl⟩ (fun r2 w1 hQ => ?_)
    obtain ⟨rfl, rfl⟩ := hQ
    refine j_perm [(a0, .inr (8, [.int (nI 0), .ref aX, .int ty, .int sp, .int tk, .int pl, .int va, .int fa, .ref aT, .ref aD, .ref aS, .ref aU, .int um, .ref aK, .ref aI, .ref aL, .ref aE, .ref aF, .int sm, .ref aP, .ref aW, .int sn, .ref aB, .ref aM])), (aT, .inl (cyI, 42, .inl (nA t))), (aS, .inl (cyI, 30, .inl (nA s)))] [0, 1, 2] rfl rfl (by decide) ?_
    refine j_b_eq (pc' := 20) C 27 dX8_flash_17 (by decide) rfl (fun c17 => ?_) (fun c17 => ?_)
    · refine j_iconst (v := (-1)) (pc' := 28) C dX8_flash_27 rfl (by decide +kernel) ?_
      exact j_iret C hr hk hA dX8_flash_28 (rfl) (⟨rfl, by unfold faQ; rw [if_pos (by simp_all)]⟩)
    · obtain ⟨a, ha, rfl⟩ := inR_t c17 (by omega)
      refine j_iload_n (pc' := 21) C dX8_flash_20 rfl 3 rfl ?_
      refine j_cSi (As := [.int w]) (wr := [(a0, .inr (8, [.int (nI 0), .ref aX, .int ty, .int sp, .int tk, .int pl, .int va, .int fa, .ref aT, .ref aD, .ref aS, .ref aU, .int um, .ref aK, .ref aI, .ref aL, .ref aE, .ref aF, .int sm, .ref aP, .ref aW, .int sn, .ref aB, .ref aM])), (aT, .inl (cyI, 42, .inl (nA t))), (aS, .inl (cyI, 30, .inl (nA s)))]) (pc' := 24) C (c_X8_isState (v := w) ) Y_X8_isState (ml_X8_179) [] [0, 1, 2] rfl rfl rfl rfl (by decide) dX8_flash_21 rfl rfl rfl (Nat.le_of_ble_eq_true rfl) ⟨Nat.le_of_ble_eq_true rfl, Nat.le_of_ble_eq_true rfl⟩ ⟨Nat.le_of_ble_eq_true rfl, Nat.le_of_ble_eq_true rfl⟩ ⟨rfl, rfl⟩ (fun r3 w1 hQ => ?_)
      obtain ⟨rfl, rfl⟩ := hQ
      refine j_perm [(a0, .inr (8, [.int (nI 0), .ref aX, .int ty, .int sp, .int tk, .int pl, .int va, .int fa, .ref aT, .ref aD, .ref aS, .ref aU, .int um, .ref aK, .ref aI, .ref aL, .ref aE, .ref aF, .int sm, .ref aP, .ref aW, .int sn, .ref aB, .ref aM])), (aT, .inl (cyI, 42, .inl (nA t))), (aS, .inl (cyI, 30, .inl (nA s)))] [0, 1, 2] rfl rfl (by decide) ?_
      refine j_b_ne (pc' := 27) C 29 dX8_flash_24 (by decide) rfl (fun c24 => ?_) (fun c24 => ?_)
      · obtain ⟨b, hb, rfl⟩ := inR_t c24 (by omega)
        have hx : a ^^^ b < 16 := Nat.xor_lt_two_pow (n := 4) ha hb
        refine j_iload_n (pc' := 30) C dX8_flash_29 rfl 2 rfl ?_
        refine j_iload_n (pc' := 31) C dX8_flash_30 rfl 3 rfl ?_
        refine j_ixor (v := (nI (a ^^^ b))) (pc' := 32) C dX8_flash_31 rfl (fb_xorI a b) ?_
        refine j_istore (pc' := 34) C [(4, .int (nI (a ^^^ b))), (0, .ref a0), (1, .int (nI j)), (2, .int (nI a)), (3, .int (nI b))] dX8_flash_32 rfl (by decide) rfl ?_
        refine j_aload_n (pc' := 35) C dX8_flash_34 rfl 1 rfl ?_
        refine j_iload_n (pc' := 36) C dX8_flash_35 rfl 2 rfl ?_
        refine j_cVi (As := [.int (nI j)]) (wr := []) (pc' := 39) C (c_X8_fedIn (a0 := a0) (th := (nI 0)) (aX := aX) (ty := ty) (sp := sp) (tk := tk) (pl := pl) (va := va) (fa := fa) (aT := aT) (aD := aD) (aS := aS) (aU := aU) (um := um) (aK := aK) (aI := aI) (aL := aL) (aE := aE) (aF := aF) (sm := sm) (aP := aP) (aW := aW) (sn := sn) (aB := aB) (aM := aM) (t := t) (s := s) (l := j) (hT := by first | assumption | omega) (hS := by first | assumption | omega) (hl := by first | assumption | omega)) Y_X8_fedIn (ml_X8_121) [0, 1, 2] [] rfl rfl rfl rfl (by decide) rfl rfl rfl dX8_flash_36 rfl rfl rfl (Nat.le_of_ble_eq_true rfl) ⟨Nat.le_of_ble_eq_true rfl, Nat.le_of_ble_eq_true rfl⟩ ⟨Nat.le_of_ble_eq_true rfl, Nat.le_of_ble_eq_true rfl⟩ ⟨rfl, rfl⟩ (fun r4 w1 hQ => ?_)
        obtain ⟨rfl, rfl⟩ := hQ
        refine j_istore (pc' := 41) C [(5, .int (nI (fedN t s j))), (4, .int (nI (a ^^^ b))), (0, .ref a0), (1, .int (nI j)), (2, .int (nI a)), (3, .int (nI b))] dX8_flash_39 rfl (by decide) rfl ?_
        refine j_iconst (v := (nI 0)) (pc' := 42) C dX8_flash_41 rfl (by decide +kernel) ?_
        refine j_istore (pc' := 44) C [(6, .int (nI 0)), (5, .int (nI (fedN t s j))), (4, .int (nI (a ^^^ b))), (0, .ref a0), (1, .int (nI j)), (2, .int (nI a)), (3, .int (nI b))] dX8_flash_42 rfl (by decide) rfl ?_
        refine j_iconst (v := (nI 1)) (pc' := 45) C dX8_flash_44 rfl (by decide +kernel) ?_
        refine j_istore (pc' := 47) C [(7, .int (nI 1)), (6, .int (nI 0)), (5, .int (nI (fedN t s j))), (4, .int (nI (a ^^^ b))), (0, .ref a0), (1, .int (nI j)), (2, .int (nI a)), (3, .int (nI b))] dX8_flash_45 rfl (by decide) rfl ?_
        refine j_lsub [(0, .ref a0), (1, .int (nI j)), (2, .int (nI a)), (3, .int (nI b)), (4, .int (nI (a ^^^ b))), (5, .int (nI (fedN t s j))), (6, .int (nI 0)), (7, .int (nI 1))] [4, 5, 6, 7, 3, 2, 1, 0] rfl ?_
        refine j_loop2 (fun (k : Nat) (z : Bool) => [(a0, .inr (8, [.int (nI 0), .ref aX, .int ty, .int sp, .int tk, .int pl, .int va, .int fa, .ref aT, .ref aD, .ref aS, .ref aU, .int um, .ref aK, .ref aI, .ref aL, .ref aE, .ref aF, .int sm, .ref aP, .ref aW, .int sn, .ref aB, .ref aM])), (aT, .inl (cyI, 42, .inl (nA t))), (aS, .inl (cyI, 30, .inl (nA s)))]) (fun (k : Nat) (z : Bool) => [(0, .ref a0), (1, .int (nI j)), (2, .int (nI a)), (3, .int (nI b)), (4, .int (nI (a ^^^ b))), (5, .int (nI (fedN t s j))), (6, .int (bI z)), (7, .int (nI k))]) (fun (k : Nat) (z : Bool) => []) (fun (k : Nat) (z : Bool) => 1 ≤ k ∧ (k ≤ a ^^^ b ∨ k = 1) ∧ z = exB (fun k => decide (1 ≤ k) && (decide (anN k (a ^^^ b) = 0) && (fedN t s j).testBit (a ^^^ k))) k) (fun (k : Nat) (z : Bool) => (a ^^^ b) - k) ?_ 1 false ?_
        · intro k z hI47 ih47
          obtain ⟨hk1, hk2, hz⟩ := hI47
          refine j_iload (pc' := 49) C dX8_flash_47 rfl 7 rfl ?_
          refine j_iload (pc' := 51) C dX8_flash_49 rfl 4 rfl ?_
          refine j_nc_ge (pc' := 54) C 94 dX8_flash_51 (by decide) rfl (by omega) (by omega) (fun c51 => ?_) (fun c51 => ?_)
          · refine j_iload (pc' := 96) C dX8_flash_94 rfl 6 rfl ?_
            refine j_b_eq (pc' := 99) C 121 dX8_flash_96 (by decide) rfl (fun c96 => ?_) (fun c96 => ?_)
            · refine j_iconst (v := (nI 0)) (pc' := 122) C dX8_flash_121 rfl (by decide +kernel) ?_
              exact j_iret C hr hk hA dX8_flash_122 (rfl) (⟨rfl, (by unfold faQ flB; rw [if_neg (by simp_all), nI_clamp (by omega), nI_clamp (by omega), nI_clamp (by omega), exB_cl (n := k) (by omega), ← hz]; simp_all)⟩)
            · refine j_iload (pc' := 101) C dX8_flash_99 rfl 5 rfl ?_
              refine j_iload_n (pc' := 102) C dX8_flash_101 rfl 2 rfl ?_
              refine j_cSi (As := [.int (nI (fedN t s j)), .int (nI a)]) (wr := [(a0, .inr (8, [.int (nI 0), .ref aX, .int ty, .int sp, .int tk, .int pl, .int va, .int fa, .ref aT, .ref aD, .ref aS, .ref aU, .int um, .ref aK, .ref aI, .ref aL, .ref aE, .ref aF, .int sm, .ref aP, .ref aW, .int sn, .ref aB, .ref aM])), (aT, .inl (cyI, 42, .inl (nA t))), (aS, .inl (cyI, 30, .inl (nA s)))]) (pc' := 105) C (c_X8_has (a := fedN t s j) (k := a) (ha := Nat.lt_trans (fedN_lt _ _ _) (by decide)) (hk9 := by omega)) Y_X8_has (ml_X8_130) [] [0, 1, 2] rfl rfl rfl rfl (by decide) dX8_flash_102 rfl rfl rfl (Nat.le_of_ble_eq_true rfl) ⟨Nat.le_of_ble_eq_true rfl, Nat.le_of_ble_eq_true rfl⟩ ⟨Nat.le_of_ble_eq_true rfl, Nat.le_of_ble_eq_true rfl⟩ ⟨rfl, rfl⟩ (fun r5 w1 hQ => ?_)
              obtain ⟨rfl, rfl⟩ := hQ
              refine j_perm [(a0, .inr (8, [.int (nI 0), .ref aX, .int ty, .int sp, .int tk, .int pl, .int va, .int fa, .ref aT, .ref aD, .ref aS, .ref aU, .int um, .ref aK, .ref aI, .ref aL, .ref aE, .ref aF, .int sm, .ref aP, .ref aW, .int sn, .ref aB, .ref aM])), (aT, .inl (cyI, 42, .inl (nA t))), (aS, .inl (cyI, 30, .inl (nA s)))] [0, 1, 2] rfl rfl (by decide) ?_
              refine j_b_ne (pc' := 108) C 121 dX8_flash_105 (by decide) rfl (fun c105 => ?_) (fun c105 => ?_)
              · refine j_iconst (v := (nI 0)) (pc' := 122) C dX8_flash_121 rfl (by decide +kernel) ?_
                exact j_iret C hr hk hA dX8_flash_122 (rfl) (⟨rfl, (by unfold faQ flB; rw [if_neg (by simp_all), nI_clamp (by omega), nI_clamp (by omega), nI_clamp (by omega), exB_cl (n := k) (by omega), ← hz]; simp_all)⟩)
              · refine j_iload (pc' := 110) C dX8_flash_108 rfl 5 rfl ?_
                refine j_iload_n (pc' := 111) C dX8_flash_110 rfl 3 rfl ?_
                refine j_cSi (As := [.int (nI (fedN t s j)), .int (nI b)]) (wr := [(a0, .inr (8, [.int (nI 0), .ref aX, .int ty, .int sp, .int tk, .int pl, .int va, .int fa, .ref aT, .ref aD, .ref aS, .ref aU, .int um, .ref aK, .ref aI, .ref aL, .ref aE, .ref aF, .int sm, .ref aP, .ref aW, .int sn, .ref aB, .ref aM])), (aT, .inl (cyI, 42, .inl (nA t))), (aS, .inl (cyI, 30, .inl (nA s)))]) (pc' := 114) C (c_X8_has (a := fedN t s j) (k := b) (ha := Nat.lt_trans (fedN_lt _ _ _) (by decide)) (hk9 := by omega)) Y_X8_has (ml_X8_130) [] [0, 1, 2] rfl rfl rfl rfl (by decide) dX8_flash_111 rfl rfl rfl (Nat.le_of_ble_eq_true rfl) ⟨Nat.le_of_ble_eq_true rfl, Nat.le_of_ble_eq_true rfl⟩ ⟨Nat.le_of_ble_eq_true rfl, Nat.le_of_ble_eq_true rfl⟩ ⟨rfl, rfl⟩ (fun r6 w1 hQ => ?_)
                obtain ⟨rfl, rfl⟩ := hQ
                refine j_perm [(a0, .inr (8, [.int (nI 0), .ref aX, .int ty, .int sp, .int tk, .int pl, .int va, .int fa, .ref aT, .ref aD, .ref aS, .ref aU, .int um, .ref aK, .ref aI, .ref aL, .ref aE, .ref aF, .int sm, .ref aP, .ref aW, .int sn, .ref aB, .ref aM])), (aT, .inl (cyI, 42, .inl (nA t))), (aS, .inl (cyI, 30, .inl (nA s)))] [0, 1, 2] rfl rfl (by decide) ?_
                refine j_b_ne (pc' := 117) C 121 dX8_flash_114 (by decide) rfl (fun c114 => ?_) (fun c114 => ?_)
                · refine j_iconst (v := (nI 0)) (pc' := 122) C dX8_flash_121 rfl (by decide +kernel) ?_
                  exact j_iret C hr hk hA dX8_flash_122 (rfl) (⟨rfl, (by unfold faQ flB; rw [if_neg (by simp_all), nI_clamp (by omega), nI_clamp (by omega), nI_clamp (by omega), exB_cl (n := k) (by omega), ← hz]; simp_all)⟩)
                · refine j_iconst (v := (nI 1)) (pc' := 118) C dX8_flash_117 rfl (by decide +kernel) ?_
                  refine j_goto C 122 dX8_flash_118 (by decide) ?_
                  exact j_iret C hr hk hA dX8_flash_122 (rfl) (⟨rfl, (by unfold faQ flB; rw [if_neg (by simp_all), nI_clamp (by omega), nI_clamp (by omega), nI_clamp (by omega), exB_cl (n := k) (by omega), ← hz]; simp_all)⟩)
          · refine j_iload (pc' := 56) C dX8_flash_54 rfl 6 rfl ?_
            refine j_b_ne (pc' := 59) C 81 dX8_flash_56 (by decide) rfl (fun c56 => ?_) (fun c56 => ?_)
            · refine j_iconst (v := (nI 1)) (pc' := 82) C dX8_flash_81 rfl (by decide +kernel) ?_
              refine j_goto C 86 dX8_flash_82 (by decide) ?_
              refine j_istore (pc' := 88) C [(6, .int (nI 1)), (0, .ref a0), (1, .int (nI j)), (2, .int (nI a)), (3, .int (nI b)), (4, .int (nI (a ^^^ b))), (5, .int (nI (fedN t s j))), (7, .int (nI k))] dX8_flash_86 rfl (by decide) rfl ?_
              refine j_iinc (v := (nI (k + 1))) (pc' := 91) C [(7, .int (nI (k + 1))), (6, .int (nI 1)), (0, .ref a0), (1, .int (nI j)), (2, .int (nI a)), (3, .int (nI b)), (4, .int (nI (a ^^^ b))), (5, .int (nI (fedN t s j)))] dX8_flash_88 rfl 7 rfl (inc_n k 1) (by decide) rfl ?_
              refine j_goto C 47 dX8_flash_91 (by decide) ?_
              refine j_lsub [(0, .ref a0), (1, .int (nI j)), (2, .int (nI a)), (3, .int (nI b)), (4, .int (nI (a ^^^ b))), (5, .int (nI (fedN t s j))), (6, .int (nI 1)), (7, .int (nI (k + 1)))] [2, 3, 4, 5, 6, 7, 1, 0] rfl ?_
              exact ih47 (k + 1) true (⟨by omega, by omega, by rw [exB, ← hz]; unfold anN; simp_all⟩) (by omega)
            · refine j_iload (pc' := 61) C dX8_flash_59 rfl 7 rfl ?_
              refine j_iload (pc' := 63) C dX8_flash_61 rfl 4 rfl ?_
              refine j_iconst (v := (nI 4294967295)) (pc' := 64) C dX8_flash_63 rfl (by decide +kernel) ?_
              refine j_ixor (v := (nI ((a ^^^ b) ^^^ 4294967295))) (pc' := 65) C dX8_flash_64 rfl (fb_xorI (a ^^^ b) 4294967295) ?_
              refine j_iand (v := (nI (k &&& ((a ^^^ b) ^^^ 4294967295)))) (pc' := 66) C dX8_flash_65 rfl (fa_and k ((a ^^^ b) ^^^ 4294967295)) ?_
              refine j_nz_ne (pc' := 69) C 85 dX8_flash_66 (by decide) rfl (Nat.lt_of_le_of_lt Nat.and_le_left (by omega)) (fun c66 => ?_) (fun c66 => ?_)
              · refine j_iconst (v := (nI 0)) (pc' := 86) C dX8_flash_85 rfl (by decide +kernel) ?_
                refine j_istore (pc' := 88) C [(6, .int (nI 0)), (0, .ref a0), (1, .int (nI j)), (2, .int (nI a)), (3, .int (nI b)), (4, .int (nI (a ^^^ b))), (5, .int (nI (fedN t s j))), (7, .int (nI k))] dX8_flash_86 rfl (by decide) rfl ?_
                refine j_iinc (v := (nI (k + 1))) (pc' := 91) C [(7, .int (nI (k + 1))), (6, .int (nI 0)), (0, .ref a0), (1, .int (nI j)), (2, .int (nI a)), (3, .int (nI b)), (4, .int (nI (a ^^^ b))), (5, .int (nI (fedN t s j)))] dX8_flash_88 rfl 7 rfl (inc_n k 1) (by decide) rfl ?_
                refine j_goto C 47 dX8_flash_91 (by decide) ?_
                refine j_lsub [(0, .ref a0), (1, .int (nI j)), (2, .int (nI a)), (3, .int (nI b)), (4, .int (nI (a ^^^ b))), (5, .int (nI (fedN t s j))), (6, .int (nI 0)), (7, .int (nI (k + 1)))] [2, 3, 4, 5, 6, 7, 1, 0] rfl ?_
                exact ih47 (k + 1) false (⟨by omega, by omega, by rw [exB, ← hz]; unfold anN; simp_all⟩) (by omega)
              · refine j_iload (pc' := 71) C dX8_flash_69 rfl 5 rfl ?_
                refine j_iload_n (pc' := 72) C dX8_flash_71 rfl 2 rfl ?_
                refine j_iload (pc' := 74) C dX8_flash_72 rfl 7 rfl ?_
                refine j_ixor (v := (nI (a ^^^ k))) (pc' := 75) C dX8_flash_74 rfl (fb_xorI a k) ?_
                refine j_cSi (As := [.int (nI (fedN t s j)), .int (nI (a ^^^ k))]) (wr := [(a0, .inr (8, [.int (nI 0), .ref aX, .int ty, .int sp, .int tk, .int pl, .int va, .int fa, .ref aT, .ref aD, .ref aS, .ref aU, .int um, .ref aK, .ref aI, .ref aL, .ref aE, .ref aF, .int sm, .ref aP, .ref aW, .int sn, .ref aB, .ref aM])), (aT, .inl (cyI, 42, .inl (nA t))), (aS, .inl (cyI, 30, .inl (nA s)))]) (pc' := 78) C (c_X8_has (a := fedN t s j) (k := a ^^^ k) (ha := Nat.lt_trans (fedN_lt _ _ _) (by decide)) (hk9 := Nat.lt_of_lt_of_le (Nat.xor_lt_two_pow (n := 4) (by omega) (by omega)) (by decide))) Y_X8_has (ml_X8_130) [] [0, 1, 2] rfl rfl rfl rfl (by decide) dX8_flash_75 rfl rfl rfl (Nat.le_of_ble_eq_true rfl) ⟨Nat.le_of_ble_eq_true rfl, Nat.le_of_ble_eq_true rfl⟩ ⟨Nat.le_of_ble_eq_true rfl, Nat.le_of_ble_eq_true rfl⟩ ⟨rfl, rfl⟩ (fun r7 w1 hQ => ?_)
                obtain ⟨rfl, rfl⟩ := hQ
                refine j_perm [(a0, .inr (8, [.int (nI 0), .ref aX, .int ty, .int sp, .int tk, .int pl, .int va, .int fa, .ref aT, .ref aD, .ref aS, .ref aU, .int um, .ref aK, .ref aI, .ref aL, .ref aE, .ref aF, .int sm, .ref aP, .ref aW, .int sn, .ref aB, .ref aM])), (aT, .inl (cyI, 42, .inl (nA t))), (aS, .inl (cyI, 30, .inl (nA s)))] [0, 1, 2] rfl rfl (by decide) ?_
                refine j_b_eq (pc' := 81) C 85 dX8_flash_78 (by decide) rfl (fun c78 => ?_) (fun c78 => ?_)
                · refine j_iconst (v := (nI 0)) (pc' := 86) C dX8_flash_85 rfl (by decide +kernel) ?_
                  refine j_istore (pc' := 88) C [(6, .int (nI 0)), (0, .ref a0), (1, .int (nI j)), (2, .int (nI a)), (3, .int (nI b)), (4, .int (nI (a ^^^ b))), (5, .int (nI (fedN t s j))), (7, .int (nI k))] dX8_flash_86 rfl (by decide) rfl ?_
                  refine j_iinc (v := (nI (k + 1))) (pc' := 91) C [(7, .int (nI (k + 1))), (6, .int (nI 0)), (0, .ref a0), (1, .int (nI j)), (2, .int (nI a)), (3, .int (nI b)), (4, .int (nI (a ^^^ b))), (5, .int (nI (fedN t s j)))] dX8_flash_88 rfl 7 rfl (inc_n k 1) (by decide) rfl ?_
                  refine j_goto C 47 dX8_flash_91 (by decide) ?_
                  refine j_lsub [(0, .ref a0), (1, .int (nI j)), (2, .int (nI a)), (3, .int (nI b)), (4, .int (nI (a ^^^ b))), (5, .int (nI (fedN t s j))), (6, .int (nI 0)), (7, .int (nI (k + 1)))] [2, 3, 4, 5, 6, 7, 1, 0] rfl ?_
                  exact ih47 (k + 1) false (⟨by omega, by omega, by rw [exB, ← hz]; unfold anN; simp_all⟩) (by omega)
                · refine j_iconst (v := (nI 1)) (pc' := 82) C dX8_flash_81 rfl (by decide +kernel) ?_
                  refine j_goto C 86 dX8_flash_82 (by decide) ?_
                  refine j_istore (pc' := 88) C [(6, .int (nI 1)), (0, .ref a0), (1, .int (nI j)), (2, .int (nI a)), (3, .int (nI b)), (4, .int (nI (a ^^^ b))), (5, .int (nI (fedN t s j))), (7, .int (nI k))] dX8_flash_86 rfl (by decide) rfl ?_
                  refine j_iinc (v := (nI (k + 1))) (pc' := 91) C [(7, .int (nI (k + 1))), (6, .int (nI 1)), (0, .ref a0), (1, .int (nI j)), (2, .int (nI a)), (3, .int (nI b)), (4, .int (nI (a ^^^ b))), (5, .int (nI (fedN t s j)))] dX8_flash_88 rfl 7 rfl (inc_n k 1) (by decide) rfl ?_
                  refine j_goto C 47 dX8_flash_91 (by decide) ?_
                  refine j_lsub [(0, .ref a0), (1, .int (nI j)), (2, .int (nI a)), (3, .int (nI b)), (4, .int (nI (a ^^^ b))), (5, .int (nI (fedN t s j))), (6, .int (nI 1)), (7, .int (nI (k + 1)))] [2, 3, 4, 5, 6, 7, 1, 0] rfl ?_
                  exact ih47 (k + 1) true (⟨by omega, by omega, by rw [exB, ← hz]; unfold anN; simp_all⟩) (by omega)
        · exact ⟨Nat.le_refl _, Or.inr rfl, by simp [exB]⟩
      · refine j_iconst (v := (-1)) (pc' := 28) C dX8_flash_27 rfl (by decide +kernel) ?_
        exact j_iret C hr hk hA dX8_flash_28 (rfl) (⟨rfl, by unfold faQ; rw [if_pos (by simp_all)]⟩)

set_option maxHeartbeats 4000000 in
set_option maxRecDepth 100000 in
theorem c_X8_gcd {lch : Launch} {dG : va_G} {cyI cyZ cyO : ClassId} (a : Nat) (b : Nat) (ha : a < 9223372036854775808) (hb : b < 9223372036854775808) : Kl lch yX8_gcd cX8_gcd 10 .long (rmk 1) dG (cyI, cyZ, cyO) [.long (lN a), .long (lN b)] [] (fun r w1 => w1 = [] ∧ r = (lN (Nat.gcd a b))) := by
  refine Kl.of (own := RX8) rfl (by decide) (Nat.le_of_ble_eq_true rfl) (fun p0 e0 s0 m0 ar0 be0 me0 cd0 A0 C hr hk hnm hA => ?_)
  refine j_lsub [(0, .long (lN a)), (2, .long (lN b))] [0, 1] rfl ?_
  refine j_lload_n (pc' := 1) C dX8_gcd_0 rfl 0 rfl ?_
  refine j_lstore (pc' := 3) C [(4, .long (lN a)), (0, .long (lN a)), (2, .long (lN b))] dX8_gcd_1 rfl (by decide) rfl ?_
  refine j_lload_n (pc' := 4) C dX8_gcd_3 rfl 2 rfl ?_
  refine j_lstore (pc' := 6) C [(6, .long (lN b)), (4, .long (lN a)), (0, .long (lN a)), (2, .long (lN b))] dX8_gcd_4 rfl (by decide) rfl ?_
  refine j_lsub [(0, .long (lN a)), (2, .long (lN b)), (4, .long (lN a)), (6, .long (lN b))] [2, 3, 1, 0] rfl ?_
  refine j_loop2 (fun (x : Nat) (y : Nat) => []) (fun (x : Nat) (y : Nat) => [(0, .long (lN a)), (2, .long (lN b)), (4, .long (lN x)), (6, .long (lN y))]) (fun (x : Nat) (y : Nat) => []) (fun (x : Nat) (y : Nat) => x < 9223372036854775808 ∧ y < 9223372036854775808 ∧ Nat.gcd x y = Nat.gcd a b) (fun (x : Nat) (y : Nat) => y) ?_ a b ?_
  · intro x y hI6 ih6
    obtain ⟨hx, hy, hg⟩ := hI6
    refine j_lload (pc' := 8) C dX8_gcd_6 rfl 3 rfl ?_
    refine j_lconst (v := (lN 0)) (pc' := 9) C dX8_gcd_8 rfl (by decide +kernel) ?_
    refine j_lcmp (v := (lg_cmp (lN y) (lN 0))) (pc' := 10) C dX8_gcd_9 rfl rfl ?_
    refine j_if_eq (pc' := 13) C 31 dX8_gcd_10 (by decide) rfl (fun c10 => ?_) (fun c10 => ?_)
    · have hy0 : y = 0 := (pk_lEQ (b := 0) hy (by decide)).mp (lcmp_0.mp c10)
      refine j_lload (pc' := 33) C dX8_gcd_31 rfl 2 rfl ?_
      exact j_lret C hr hk hA dX8_gcd_33 (⟨rfl, by rw [← hg, hy0, Nat.gcd_zero_right]⟩)
    · have hy0 : y ≠ 0 := fun q9 => c10 (lcmp_0.mpr (by rw [q9]))
      refine j_lload (pc' := 15) C dX8_gcd_13 rfl 2 rfl ?_
      refine j_lload (pc' := 17) C dX8_gcd_15 rfl 3 rfl ?_
      refine j_lrem (v := (lN (x % y))) (pc' := 18) C dX8_gcd_17 rfl (lN_ne0 (by omega) hy) (pk_lRem (by omega) (by omega) (by omega)) ?_
      refine j_lstore (pc' := 20) C [(8, .long (lN (x % y))), (0, .long (lN a)), (2, .long (lN b)), (4, .long (lN x)), (6, .long (lN y))] dX8_gcd_18 rfl (by decide) rfl ?_
      refine j_lload (pc' := 22) C dX8_gcd_20 rfl 4 rfl ?_
      refine j_lstore (pc' := 24) C [(4, .long (lN y)), (8, .long (lN (x % y))), (0, .long (lN a)), (2, .long (lN b)), (6, .long (lN y))] dX8_gcd_22 rfl (by decide) rfl ?_
      refine j_lload (pc' := 26) C dX8_gcd_24 rfl 1 rfl ?_
      refine j_lstore (pc' := 28) C [(6, .long (lN (x % y))), (4, .long (lN y)), (8, .long (lN (x % y))), (0, .long (lN a)), (2, .long (lN b))] dX8_gcd_26 rfl (by decide) rfl ?_
      refine j_goto C 6 dX8_gcd_28 (by decide) ?_
      refine j_lsub [(0, .long (lN a)), (2, .long (lN b)), (4, .long (lN y)), (6, .long (lN (x % y)))] [3, 4, 1, 0] rfl ?_
      exact ih6 y (x % y) (⟨hy, Nat.lt_trans (Nat.mod_lt _ (by omega)) hy, by rw [← hg, Nat.gcd_comm x y, Nat.gcd_rec y x, Nat.gcd_comm]⟩) (Nat.mod_lt _ (by omega))
  · exact ⟨ha, hb, rfl⟩

set_option maxHeartbeats 4000000 in
set_option maxRecDepth 100000 in
theorem c_X8_sees {lch : Launch} {dG : va_G} {cyI cyZ cyO : ClassId} (a0 : Nat) (th : Int32) (aX : Nat) (ty : Int32) (sp : Int32) (tk : Int32) (pl : Int32) (va : Int32) (fa : Int32) (aT : Nat) (aD : Nat) (aS : Nat) (aU : Nat) (um : Int32) (aK : Nat) (aI : Nat) (aL : Nat) (aE : Nat) (aF : Nat) (aP : Nat) (aW : Nat) (sn : Int32) (aB : Nat) (aM : Nat) (t : Nat → Nat) (sl : Nat → Nat) (ss : Nat → Nat) (sf : Nat → Nat) (n : Nat) (l : Int32) (v : Int32) (w : Int32) (hT : WT t) (hn : n ≤ 6) : Ki lch yX8_sees cX8_sees 4 .int (rmk 3) dG (cyI, cyZ, cyO) [.ref a0, .int l, .int v, .int w] [(a0, .inr (8, [.int th, .ref aX, .int ty, .int sp, .int tk, .int pl, .int va, .int fa, .ref aT, .ref aD, .ref aS, .ref aU, .int um, .ref aK, .ref aI, .ref aL, .ref aE, .ref aF, .int (nI n), .ref aP, .ref aW, .int sn, .ref aB, .ref aM])), (aT, .inl (cyI, 42, .inl (nA t))), (aL, .inl (cyI, 6, .inl (nA sl))), (aE, .inl (cyI, 6, .inl (nA ss))), (aF, .inl (cyI, 6, .inl (nA sf)))] (fun r w1 => ∃ (l1 : Nat → Nat), ∃ (e1 : Nat → Nat), ∃ (f1 : Nat → Nat), ∃ (n1 : Nat), w1 = [(a0, .inr (8, [.int (nI 0), .ref aX, .int ty, .int sp, .int tk, .int pl, .int va, .int fa, .ref aT, .ref aD, .ref aS, .ref aU, .int um, .ref aK, .ref aI, .ref aL, .ref aE, .ref aF, .int (nI n1), .ref aP, .ref aW, .int sn, .ref aB, .ref aM])), (aT, .inl (cyI, 42, .inl (nA t))), (aL, .inl (cyI, 6, .inl (nA l1))), (aE, .inl (cyI, 6, .inl (nA e1))), (aF, .inl (cyI, 6, .inl (nA f1)))] ∧ (r, l1, e1, f1, n1) = seQ t sl ss sf n l v w) := by
  have h1 := hT.n
  refine Ki.of (own := RX8) rfl (by decide) (Nat.le_of_ble_eq_true rfl) (fun p0 e0 s0 m0 ar0 be0 me0 cd0 A0 C hr hk hnm hA => ?_)
  refine j_lsub [(0, .ref a0), (1, .int l), (2, .int v), (3, .int w)] [0, 1, 2, 3] rfl ?_
  refine j_aload_n (pc' := 1) C dX8_sees_0 rfl 0 rfl ?_
  refine j_iconst (v := (nI 0)) (pc' := 2) C dX8_sees_1 rfl (by decide +kernel) ?_
  refine j_put (pc' := 5) C [(a0, .inr (8, [.int (nI 0), .ref aX, .int ty, .int sp, .int tk, .int pl, .int va, .int fa, .ref aT, .ref aD, .ref aS, .ref aU, .int um, .ref aK, .ref aI, .ref aL, .ref aE, .ref aF, .int (nI n), .ref aP, .ref aW, .int sn, .ref aB, .ref aM])), (aT, .inl (cyI, 42, .inl (nA t))), (aL, .inl (cyI, 6, .inl (nA sl))), (aE, .inl (cyI, 6, .inl (nA ss))), (aF, .inl (cyI, 6, .inl (nA sf)))] KX8 0 0 rfl (by decide) fl_X8_59 rfl rfl rfl rfl (Nat.le_of_ble_eq_true rfl) dX8_sees_2 rfl rfl ?_
  refine j_aload_n (pc' := 6) C dX8_sees_5 rfl 0 rfl ?_
  refine j_iload_n (pc' := 7) C dX8_sees_6 rfl 1 rfl ?_
  refine j_cVi (As := [.int l]) (wr := [(aL, .inl (cyI, 6, .inl (nA sl))), (aE, .inl (cyI, 6, .inl (nA ss))), (aF, .inl (cyI, 6, .inl (nA sf)))]) (pc' := 10) C (c_X8_isLoad (a0 := a0) (th := (nI 0)) (aX := aX) (ty := ty) (sp := sp) (tk := tk) (pl := pl) (va := va) (fa := fa) (aT := aT) (aD := aD) (aS := aS) (aU := aU) (um := um) (aK := aK) (aI := aI) (aL := aL) (aE := aE) (aF := aF) (sm := (nI n)) (aP := aP) (aW := aW) (sn := sn) (aB := aB) (aM := aM) (t := t) (v := l) (hT := by first | assumption | omega)) Y_X8_isLoad (ml_X8_150) [0, 1] [2, 3, 4] rfl rfl rfl rfl (by decide) rfl rfl rfl dX8_sees_7 rfl rfl rfl (Nat.le_of_ble_eq_true rfl) ⟨Nat.le_of_ble_eq_true rfl, Nat.le_of_ble_eq_true rfl⟩ ⟨Nat.le_of_ble_eq_true rfl, Nat.le_of_ble_eq_true rfl⟩ ⟨rfl, rfl⟩ (fun r1 w1 hQ => ?_)
  obtain ⟨rfl, rfl⟩ := hQ
  refine j_perm [(a0, .inr (8, [.int (nI 0), .ref aX, .int ty, .int sp, .int tk, .int pl, .int va, .int fa, .ref aT, .ref aD, .ref aS, .ref aU, .int um, .ref aK, .ref aI, .ref aL, .ref aE, .ref aF, .int (nI n), .ref aP, .ref aW, .int sn, .ref aB, .ref aM])), (aT, .inl (cyI, 42, .inl (nA t))), (aL, .inl (cyI, 6, .inl (nA sl))), (aE, .inl (cyI, 6, .inl (nA ss))), (aF, .inl (cyI, 6, .inl (nA sf)))] [3, 4, 0, 1, 2] rfl rfl (by decide) ?_
  refine j_b_eq (pc' := 13) C 29 dX8_sees_10 (by decide) rfl (fun c10 => ?_) (fun c10 => ?_)
  · refine j_iconst (v := (-1)) (pc' := 30) C dX8_sees_29 rfl (by decide +kernel) ?_
    exact j_iret C hr hk hA dX8_sees_30 (rfl) (⟨sl, ss, sf, n, rfl, by unfold seQ; rw [if_pos (by simp_all)]⟩)
  · obtain ⟨j, hj, rfl⟩ := inR_t c10 (by omega)
    refine j_iload_n (pc' := 14) C dX8_sees_13 rfl 2 rfl ?_
    refine j_cSi (As := [.int v]) (wr := [(a0, .inr (8, [.int (nI 0), .ref aX, .int ty, .int sp, .int tk, .int pl, .int va, .int fa, .ref aT, .ref aD, .ref aS, .ref aU, .int um, .ref aK, .ref aI, .ref aL, .ref aE, .ref aF, .int (nI n), .ref aP, .ref aW, .int sn, .ref aB, .ref aM])), (aT, .inl (cyI, 42, .inl (nA t))), (aL, .inl (cyI, 6, .inl (nA sl))), (aE, .inl (cyI, 6, .inl (nA ss))), (aF, .inl (cyI, 6, .inl (nA sf)))]) (pc' := 17) C (c_X8_isState (v := v) ) Y_X8_isState (ml_X8_179) [] [0, 1, 2, 3, 4] rfl rfl rfl rfl (by decide) dX8_sees_14 rfl rfl rfl (Nat.le_of_ble_eq_true rfl) ⟨Nat.le_of_ble_eq_true rfl, Nat.le_of_ble_eq_true rfl⟩ ⟨Nat.le_of_ble_eq_true rfl, Nat.le_of_ble_eq_true rfl⟩ ⟨rfl, rfl⟩ (fun r2 w1 hQ => ?_)
    obtain ⟨rfl, rfl⟩ := hQ
    refine j_perm [(a0, .inr (8, [.int (nI 0), .ref aX, .int ty, .int sp, .int tk, .int pl, .int va, .int fa, .ref aT, .ref aD, .ref aS, .ref aU, .int um, .ref aK, .ref aI, .ref aL, .ref aE, .ref aF, .int (nI n), .ref aP, .ref aW, .int sn, .ref aB, .ref aM])), (aT, .inl (cyI, 42, .inl (nA t))), (aL, .inl (cyI, 6, .inl (nA sl))), (aE, .inl (cyI, 6, .inl (nA ss))), (aF, .inl (cyI, 6, .inl (nA sf)))] [0, 1, 2, 3, 4] rfl rfl (by decide) ?_
    refine j_b_eq (pc' := 20) C 29 dX8_sees_17 (by decide) rfl (fun c17 => ?_) (fun c17 => ?_)
    · refine j_iconst (v := (-1)) (pc' := 30) C dX8_sees_29 rfl (by decide +kernel) ?_
      exact j_iret C hr hk hA dX8_sees_30 (rfl) (⟨sl, ss, sf, n, rfl, by unfold seQ; rw [if_pos (by simp_all)]⟩)
    · obtain ⟨q, hq, rfl⟩ := inR_t c17 (by omega)
      refine j_iload_n (pc' := 21) C dX8_sees_20 rfl 3 rfl ?_
      refine j_iconst (v := (nI 0)) (pc' := 22) C dX8_sees_21 rfl (by decide +kernel) ?_
      refine j_iconst (v := (nI 1)) (pc' := 23) C dX8_sees_22 rfl (by decide +kernel) ?_
      refine j_cSi (As := [.int w, .int (nI 0), .int (nI 1)]) (wr := [(a0, .inr (8, [.int (nI 0), .ref aX, .int ty, .int sp, .int tk, .int pl, .int va, .int fa, .ref aT, .ref aD, .ref aS, .ref aU, .int um, .ref aK, .ref aI, .ref aL, .ref aE, .ref aF, .int (nI n), .ref aP, .ref aW, .int sn, .ref aB, .ref aM])), (aT, .inl (cyI, 42, .inl (nA t))), (aL, .inl (cyI, 6, .inl (nA sl))), (aE, .inl (cyI, 6, .inl (nA ss))), (aF, .inl (cyI, 6, .inl (nA sf)))]) (pc' := 26) C (c_X8_in (x := w) (a := (nI 0)) (b := (nI 1)) ) Y_X8_in (ml_X8_63) [] [0, 1, 2, 3, 4] rfl rfl rfl rfl (by decide) dX8_sees_23 rfl rfl rfl (Nat.le_of_ble_eq_true rfl) ⟨Nat.le_of_ble_eq_true rfl, Nat.le_of_ble_eq_true rfl⟩ ⟨Nat.le_of_ble_eq_true rfl, Nat.le_of_ble_eq_true rfl⟩ ⟨rfl, rfl⟩ (fun r3 w1 hQ => ?_)
      obtain ⟨rfl, rfl⟩ := hQ
      refine j_perm [(a0, .inr (8, [.int (nI 0), .ref aX, .int ty, .int sp, .int tk, .int pl, .int va, .int fa, .ref aT, .ref aD, .ref aS, .ref aU, .int um, .ref aK, .ref aI, .ref aL, .ref aE, .ref aF, .int (nI n), .ref aP, .ref aW, .int sn, .ref aB, .ref aM])), (aT, .inl (cyI, 42, .inl (nA t))), (aL, .inl (cyI, 6, .inl (nA sl))), (aE, .inl (cyI, 6, .inl (nA ss))), (aF, .inl (cyI, 6, .inl (nA sf)))] [0, 1, 2, 3, 4] rfl rfl (by decide) ?_
      refine j_b_ne (pc' := 29) C 31 dX8_sees_26 (by decide) rfl (fun c26 => ?_) (fun c26 => ?_)
      · rw [in_R2 _ _ (by omega)] at c26
        obtain ⟨z, hz, rfl⟩ := inR_t c26 (by omega)
        refine j_aload_n (pc' := 32) C dX8_sees_31 rfl 0 rfl ?_
        refine j_get (v := .int (nI n)) (pc' := 35) C KX8 0 18 rfl (by decide) fl_X8_124 rfl rfl dX8_sees_32 rfl ?_
        refine j_bipush (v := (nI 6)) (pc' := 37) C dX8_sees_35 rfl (by decide +kernel) ?_
        refine j_nc_ne (pc' := 40) C 43 dX8_sees_37 (by decide) rfl (by omega) (by omega) (fun c37 => ?_) (fun c37 => ?_)
        · refine j_aload_n (pc' := 44) C dX8_sees_43 rfl 0 rfl ?_
          refine j_get (v := .ref aL) (pc' := 47) C KX8 0 15 rfl (by decide) fl_X8_32 rfl rfl dX8_sees_44 rfl ?_
          refine j_aload_n (pc' := 48) C dX8_sees_47 rfl 0 rfl ?_
          refine j_get (v := .int (nI n)) (pc' := 51) C KX8 0 18 rfl (by decide) fl_X8_124 rfl rfl dX8_sees_48 rfl ?_
          refine j_iload_n (pc' := 52) C dX8_sees_51 rfl 1 rfl ?_
          refine j_nast (pc' := 53) C [(a0, .inr (8, [.int (nI 0), .ref aX, .int ty, .int sp, .int tk, .int pl, .int va, .int fa, .ref aT, .ref aD, .ref aS, .ref aU, .int um, .ref aK, .ref aI, .ref aL, .ref aE, .ref aF, .int (nI n), .ref aP, .ref aW, .int sn, .ref aB, .ref aM])), (aT, .inl (cyI, 42, .inl (nA t))), (aL, .inl (cyI, 6, .inl (nA (uN sl n j)))), (aE, .inl (cyI, 6, .inl (nA ss))), (aF, .inl (cyI, 6, .inl (nA sf)))] 2 rfl (by omega) (by decide) dX8_sees_52 rfl rfl ?_
          refine j_aload_n (pc' := 54) C dX8_sees_53 rfl 0 rfl ?_
          refine j_get (v := .ref aE) (pc' := 57) C KX8 0 16 rfl (by decide) fl_X8_35 rfl rfl dX8_sees_54 rfl ?_
          refine j_aload_n (pc' := 58) C dX8_sees_57 rfl 0 rfl ?_
          refine j_get (v := .int (nI n)) (pc' := 61) C KX8 0 18 rfl (by decide) fl_X8_124 rfl rfl dX8_sees_58 rfl ?_
          refine j_iload_n (pc' := 62) C dX8_sees_61 rfl 2 rfl ?_
          refine j_nast (pc' := 63) C [(a0, .inr (8, [.int (nI 0), .ref aX, .int ty, .int sp, .int tk, .int pl, .int va, .int fa, .ref aT, .ref aD, .ref aS, .ref aU, .int um, .ref aK, .ref aI, .ref aL, .ref aE, .ref aF, .int (nI n), .ref aP, .ref aW, .int sn, .ref aB, .ref aM])), (aT, .inl (cyI, 42, .inl (nA t))), (aL, .inl (cyI, 6, .inl (nA (uN sl n j)))), (aE, .inl (cyI, 6, .inl (nA (uN ss n q)))), (aF, .inl (cyI, 6, .inl (nA sf)))] 3 rfl (by omega) (by decide) dX8_sees_62 rfl rfl ?_
          refine j_aload_n (pc' := 64) C dX8_sees_63 rfl 0 rfl ?_
          refine j_get (v := .ref aF) (pc' := 67) C KX8 0 17 rfl (by decide) fl_X8_38 rfl rfl dX8_sees_64 rfl ?_
          refine j_aload_n (pc' := 68) C dX8_sees_67 rfl 0 rfl ?_
          refine j_get (v := .int (nI n)) (pc' := 71) C KX8 0 18 rfl (by decide) fl_X8_124 rfl rfl dX8_sees_68 rfl ?_
          refine j_iload_n (pc' := 72) C dX8_sees_71 rfl 3 rfl ?_
          refine j_nast (pc' := 73) C [(a0, .inr (8, [.int (nI 0), .ref aX, .int ty, .int sp, .int tk, .int pl, .int va, .int fa, .ref aT, .ref aD, .ref aS, .ref aU, .int um, .ref aK, .ref aI, .ref aL, .ref aE, .ref aF, .int (nI n), .ref aP, .ref aW, .int sn, .ref aB, .ref aM])), (aT, .inl (cyI, 42, .inl (nA t))), (aL, .inl (cyI, 6, .inl (nA (uN sl n j)))), (aE, .inl (cyI, 6, .inl (nA (uN ss n q)))), (aF, .inl (cyI, 6, .inl (nA (uN sf n z))))] 4 rfl (by omega) (by decide) dX8_sees_72 rfl rfl ?_
          refine j_aload_n (pc' := 74) C dX8_sees_73 rfl 0 rfl ?_
          refine j_dup (pc' := 75) C dX8_sees_74 rfl rfl ?_
          refine j_get (v := .int (nI n)) (pc' := 78) C KX8 0 18 rfl (by decide) fl_X8_124 rfl rfl dX8_sees_75 rfl ?_
          refine j_iconst (v := (nI 1)) (pc' := 79) C dX8_sees_78 rfl (by decide +kernel) ?_
          refine j_iadd (v := (nI (n + 1))) (pc' := 80) C dX8_sees_79 rfl (nI_add n 1) ?_
          refine j_put (pc' := 83) C [(a0, .inr (8, [.int (nI 0), .ref aX, .int ty, .int sp, .int tk, .int pl, .int va, .int fa, .ref aT, .ref aD, .ref aS, .ref aU, .int um, .ref aK, .ref aI, .ref aL, .ref aE, .ref aF, .int (nI (n + 1)), .ref aP, .ref aW, .int sn, .ref aB, .ref aM])), (aT, .inl (cyI, 42, .inl (nA t))), (aL, .inl (cyI, 6, .inl (nA (uN sl n j)))), (aE, .inl (cyI, 6, .inl (nA (uN ss n q)))), (aF, .inl (cyI, 6, .inl (nA (uN sf n z))))] KX8 0 18 rfl (by decide) fl_X8_124 rfl rfl rfl rfl (Nat.le_of_ble_eq_true rfl) dX8_sees_80 rfl rfl ?_
          refine j_aload_n (pc' := 84) C dX8_sees_83 rfl 0 rfl ?_
          refine j_get (v := .int (nI (n + 1))) (pc' := 87) C KX8 0 18 rfl (by decide) fl_X8_124 rfl rfl dX8_sees_84 rfl ?_
          exact j_iret C hr hk hA dX8_sees_87 (rfl) (⟨_, _, _, _, rfl, by unfold seQ; rw [if_neg (by simp_all), if_neg c37, nI_clamp (by omega), nI_clamp (by omega), nI_clamp (by omega)]⟩)
        · refine j_bipush (v := (-3)) (pc' := 42) C dX8_sees_40 rfl (by decide +kernel) ?_
          exact j_iret C hr hk hA dX8_sees_42 (rfl) (⟨sl, ss, sf, n, rfl, by unfold seQ; rw [if_neg (by simp_all), if_pos c37]⟩)
      · rw [in_R2 _ _ (by omega)] at c26
        refine j_iconst (v := (-1)) (pc' := 30) C dX8_sees_29 rfl (by decide +kernel) ?_
        exact j_iret C hr hk hA dX8_sees_30 (rfl) (⟨sl, ss, sf, n, rfl, by unfold seQ; rw [if_pos (by simp_all)]⟩)

set_option maxHeartbeats 4000000 in
set_option maxRecDepth 100000 in
theorem c_X8_forget {lch : Launch} {dG : va_G} {cyI cyZ cyO : ClassId} (a0 : Nat) (th : Int32) (aX : Nat) (ty : Int32) (sp : Int32) (tk : Int32) (pl : Int32) (va : Int32) (fa : Int32) (aT : Nat) (aD : Nat) (aS : Nat) (aU : Nat) (um : Int32) (aK : Nat) (aI : Nat) (aL : Nat) (aE : Nat) (aF : Nat) (aP : Nat) (aW : Nat) (sn : Int32) (aB : Nat) (aM : Nat) (n : Nat)  : Ki lch yX8_forget cX8_forget 2 .int (rmk 1) dG (cyI, cyZ, cyO) [.ref a0] [(a0, .inr (8, [.int th, .ref aX, .int ty, .int sp, .int tk, .int pl, .int va, .int fa, .ref aT, .ref aD, .ref aS, .ref aU, .int um, .ref aK, .ref aI, .ref aL, .ref aE, .ref aF, .int (nI n), .ref aP, .ref aW, .int sn, .ref aB, .ref aM]))] (fun r w1 => w1 = [(a0, .inr (8, [.int (nI 0), .ref aX, .int ty, .int sp, .int tk, .int pl, .int va, .int fa, .ref aT, .ref aD, .ref aS, .ref aU, .int um, .ref aK, .ref aI, .ref aL, .ref aE, .ref aF, .int (nI 0), .ref aP, .ref aW, .int sn, .ref aB, .ref aM]))] ∧ r = (nI n)) := by
  refine Ki.of (own := RX8) rfl (by decide) (Nat.le_of_ble_eq_true rfl) (fun p0 e0 s0 m0 ar0 be0 me0 cd0 A0 C hr hk hnm hA => ?_)
  refine j_lsub [(0, .ref a0)] [0] rfl ?_
  refine j_aload_n (pc' := 1) C dX8_forget_0 rfl 0 rfl ?_
  refine j_iconst (v := (nI 0)) (pc' := 2) C dX8_forget_1 rfl (by decide +kernel) ?_
  refine j_put (pc' := 5) C [(a0, .inr (8, [.int (nI 0), .ref aX, .int ty, .int sp, .int tk, .int pl, .int va, .int fa, .ref aT, .ref aD, .ref aS, .ref aU, .int um, .ref aK, .ref aI, .ref aL, .ref aE, .ref aF, .int (nI n), .ref aP, .ref aW, .int sn, .ref aB, .ref aM]))] KX8 0 0 rfl (by decide) fl_X8_59 rfl rfl rfl rfl (Nat.le_of_ble_eq_true rfl) dX8_forget_2 rfl rfl ?_
  refine j_aload_n (pc' := 6) C dX8_forget_5 rfl 0 rfl ?_
  refine j_get (v := .int (nI n)) (pc' := 9) C KX8 0 18 rfl (by decide) fl_X8_124 rfl rfl dX8_forget_6 rfl ?_
  refine j_istore_n (pc' := 10) C [(1, .int (nI n)), (0, .ref a0)] dX8_forget_9 rfl (by decide) rfl ?_
  refine j_aload_n (pc' := 11) C dX8_forget_10 rfl 1 rfl ?_
  refine j_iconst (v := (nI 0)) (pc' := 12) C dX8_forget_11 rfl (by decide +kernel) ?_
  refine j_put (pc' := 15) C [(a0, .inr (8, [.int (nI 0), .ref aX, .int ty, .int sp, .int tk, .int pl, .int va, .int fa, .ref aT, .ref aD, .ref aS, .ref aU, .int um, .ref aK, .ref aI, .ref aL, .ref aE, .ref aF, .int (nI 0), .ref aP, .ref aW, .int sn, .ref aB, .ref aM]))] KX8 0 18 rfl (by decide) fl_X8_124 rfl rfl rfl rfl (Nat.le_of_ble_eq_true rfl) dX8_forget_12 rfl rfl ?_
  refine j_iload_n (pc' := 16) C dX8_forget_15 rfl 0 rfl ?_
  exact j_iret C hr hk hA dX8_forget_16 (rfl) (⟨rfl, rfl⟩)

set_option maxHeartbeats 4000000 in
set_option maxRecDepth 100000 in
theorem c_X8_unseen {lch : Launch} {dG : va_G} {cyI cyZ cyO : ClassId} (a0 : Nat) (th : Int32) (aX : Nat) (ty : Int32) (sp : Int32) (tk : Int32) (pl : Int32) (va : Int32) (fa : Int32) (aT : Nat) (aD : Nat) (aS : Nat) (aU : Nat) (um : Int32) (aK : Nat) (aI : Nat) (aL : Nat) (aE : Nat) (aF : Nat) (aP : Nat) (aW : Nat) (sn : Int32) (aB : Nat) (aM : Nat) (t : Nat → Nat) (s : Nat → Nat) (sl : Nat → Nat) (ss : Nat → Nat) (sf : Nat → Nat) (n : Nat) (w : Int32) (hT : WT t) (hS : WS s) (hE : WE t sl ss sf n) : Ki lch yX8_unseen cX8_unseen 7 .int (rmk 6) dG (cyI, cyZ, cyO) [.ref a0, .int w] [(a0, .inr (8, [.int th, .ref aX, .int ty, .int sp, .int tk, .int pl, .int va, .int fa, .ref aT, .ref aD, .ref aS, .ref aU, .int um, .ref aK, .ref aI, .ref aL, .ref aE, .ref aF, .int (nI n), .ref aP, .ref aW, .int sn, .ref aB, .ref aM])), (aT, .inl (cyI, 42, .inl (nA t))), (aS, .inl (cyI, 30, .inl (nA s))), (aL, .inl (cyI, 6, .inl (nA sl))), (aE, .inl (cyI, 6, .inl (nA ss))), (aF, .inl (cyI, 6, .inl (nA sf)))] (fun r w1 => w1 = [(a0, .inr (8, [.int (nI 0), .ref aX, .int ty, .int sp, .int tk, .int pl, .int va, .int fa, .ref aT, .ref aD, .ref aS, .ref aU, .int um, .ref aK, .ref aI, .ref aL, .ref aE, .ref aF, .int (nI n), .ref aP, .ref aW, .int sn, .ref aB, .ref aM])), (aT, .inl (cyI, 42, .inl (nA t))), (aS, .inl (cyI, 30, .inl (nA s))), (aL, .inl (cyI, 6, .inl (nA sl))), (aE, .inl (cyI, 6, .inl (nA ss))), (aF, .inl (cyI, 6, .inl (nA sf)))] ∧ r = (usQ t s sl ss sf n w)) := by
  have h1 := hT.n
  have h7 := hE.1
  refine Ki.of (own := RX8) rfl (by decide) (Nat.le_of_ble_eq_true rfl) (fun p0 e0 s0 m0 ar0 be0 me0 cd0 A0 C hr hk hnm hA => ?_)
  refine j_lsub [(0, .ref a0), (1, .int w)] [0, 1] rfl ?_
  refine j_aload_n (pc' := 1) C dX8_unseen_0 rfl 0 rfl ?_
  refine j_iconst (v := (nI 0)) (pc' := 2) C dX8_unseen_1 rfl (by decide +kernel) ?_
  refine j_put (pc' := 5) C [(a0, .inr (8, [.int (nI 0), .ref aX, .int ty, .int sp, .int tk, .int pl, .int va, .int fa, .ref aT, .ref aD, .ref aS, .ref aU, .int um, .ref aK, .ref aI, .ref aL, .ref aE, .ref aF, .int (nI n), .ref aP, .ref aW, .int sn, .ref aB, .ref aM])), (aT, .inl (cyI, 42, .inl (nA t))), (aS, .inl (cyI, 30, .inl (nA s))), (aL, .inl (cyI, 6, .inl (nA sl))), (aE, .inl (cyI, 6, .inl (nA ss))), (aF, .inl (cyI, 6, .inl (nA sf)))] KX8 0 0 rfl (by decide) fl_X8_59 rfl rfl rfl rfl (Nat.le_of_ble_eq_true rfl) dX8_unseen_2 rfl rfl ?_
  refine j_iload_n (pc' := 6) C dX8_unseen_5 rfl 1 rfl ?_
  refine j_iconst (v := (nI 1)) (pc' := 7) C dX8_unseen_6 rfl (by decide +kernel) ?_
  refine j_iconst (v := (nI 2)) (pc' := 8) C dX8_unseen_7 rfl (by decide +kernel) ?_
  refine j_cSi (As := [.int w, .int (nI 1), .int (nI 2)]) (wr := [(a0, .inr (8, [.int (nI 0), .ref aX, .int ty, .int sp, .int tk, .int pl, .int va, .int fa, .ref aT, .ref aD, .ref aS, .ref aU, .int um, .ref aK, .ref aI, .ref aL, .ref aE, .ref aF, .int (nI n), .ref aP, .ref aW, .int sn, .ref aB, .ref aM])), (aT, .inl (cyI, 42, .inl (nA t))), (aS, .inl (cyI, 30, .inl (nA s))), (aL, .inl (cyI, 6, .inl (nA sl))), (aE, .inl (cyI, 6, .inl (nA ss))), (aF, .inl (cyI, 6, .inl (nA sf)))]) (pc' := 11) C (c_X8_in (x := w) (a := (nI 1)) (b := (nI 2)) ) Y_X8_in (ml_X8_63) [] [0, 1, 2, 3, 4, 5] rfl rfl rfl rfl (by decide) dX8_unseen_8 rfl rfl rfl (Nat.le_of_ble_eq_true rfl) ⟨Nat.le_of_ble_eq_true rfl, Nat.le_of_ble_eq_true rfl⟩ ⟨Nat.le_of_ble_eq_true rfl, Nat.le_of_ble_eq_true rfl⟩ ⟨rfl, rfl⟩ (fun r1 w1 hQ => ?_)
  obtain ⟨rfl, rfl⟩ := hQ
  refine j_perm [(a0, .inr (8, [.int (nI 0), .ref aX, .int ty, .int sp, .int tk, .int pl, .int va, .int fa, .ref aT, .ref aD, .ref aS, .ref aU, .int um, .ref aK, .ref aI, .ref aL, .ref aE, .ref aF, .int (nI n), .ref aP, .ref aW, .int sn, .ref aB, .ref aM])), (aT, .inl (cyI, 42, .inl (nA t))), (aS, .inl (cyI, 30, .inl (nA s))), (aL, .inl (cyI, 6, .inl (nA sl))), (aE, .inl (cyI, 6, .inl (nA ss))), (aF, .inl (cyI, 6, .inl (nA sf)))] [0, 1, 2, 3, 4, 5] rfl rfl (by decide) ?_
  refine j_b_ne (pc' := 14) C 16 dX8_unseen_11 (by decide) rfl (fun c11 => ?_) (fun c11 => ?_)
  · have c11b := of_decide_eq_true c11
    rw [nI_toInt (n := 1) (by decide), nI_toInt (n := 2) (by decide)] at c11b
    obtain ⟨q, hq, rfl⟩ := inR_t (x := w) (n := 3) (by unfold inR; exact decide_eq_true (by omega)) (by decide)
    rw [nI_toInt (n := q) (by omega)] at c11b
    refine j_iconst (v := (nI 0)) (pc' := 17) C dX8_unseen_16 rfl (by decide +kernel) ?_
    refine j_istore_n (pc' := 18) C [(2, .int (nI 0)), (0, .ref a0), (1, .int (nI q))] dX8_unseen_17 rfl (by decide) rfl ?_
    refine j_iconst (v := (nI 0)) (pc' := 19) C dX8_unseen_18 rfl (by decide +kernel) ?_
    refine j_istore_n (pc' := 20) C [(3, .int (nI 0)), (2, .int (nI 0)), (0, .ref a0), (1, .int (nI q))] dX8_unseen_19 rfl (by decide) rfl ?_
    refine j_lsub [(0, .ref a0), (1, .int (nI q)), (2, .int (nI 0)), (3, .int (nI 0))] [2, 3, 1, 0] rfl ?_
    refine j_loop2 (fun (i : Nat) (z : Nat) => [(a0, .inr (8, [.int (nI 0), .ref aX, .int ty, .int sp, .int tk, .int pl, .int va, .int fa, .ref aT, .ref aD, .ref aS, .ref aU, .int um, .ref aK, .ref aI, .ref aL, .ref aE, .ref aF, .int (nI n), .ref aP, .ref aW, .int sn, .ref aB, .ref aM])), (aT, .inl (cyI, 42, .inl (nA t))), (aS, .inl (cyI, 30, .inl (nA s))), (aL, .inl (cyI, 6, .inl (nA sl))), (aE, .inl (cyI, 6, .inl (nA ss))), (aF, .inl (cyI, 6, .inl (nA sf)))]) (fun (i : Nat) (z : Nat) => [(0, .ref a0), (1, .int (nI q)), (2, .int (nI z)), (3, .int (nI i))]) (fun (i : Nat) (z : Nat) => []) (fun (i : Nat) (z : Nat) => i ≤ t 1 ∧ z = bsN (fun c => agB t (uN s (21 + c) q) sl ss sf n) i) (fun (i : Nat) (z : Nat) => t 1 - i) ?_ 0 0 ?_
    · intro i z hI20 ih20
      obtain ⟨hi, hz⟩ := hI20
      refine j_iload_n (pc' := 21) C dX8_unseen_20 rfl 3 rfl ?_
      refine j_aload_n (pc' := 22) C dX8_unseen_21 rfl 0 rfl ?_
      refine j_get (v := .ref aT) (pc' := 25) C KX8 0 8 rfl (by decide) fl_X8_13 rfl rfl dX8_unseen_22 rfl ?_
      refine j_iconst (v := (nI 1)) (pc' := 26) C dX8_unseen_25 rfl (by decide +kernel) ?_
      refine j_nald (pc' := 27) C 1 rfl (by omega) (by decide) dX8_unseen_26 rfl ?_
      refine j_nc_ge (pc' := 30) C 154 dX8_unseen_27 (by decide) rfl (by omega) (by omega) (fun c27 => ?_) (fun c27 => ?_)
      · refine j_iload_n (pc' := 155) C dX8_unseen_154 rfl 2 rfl ?_
        exact j_iret C hr hk hA dX8_unseen_155 (rfl) (⟨rfl, by unfold usQ; rw [if_neg (by rw [inR_n hq (by decide)]; simp; intro q9; have := (nI_eq (by omega) (by decide)).mp q9; omega), nI_clamp (by omega), hz, show i = t 1 by omega]⟩)
      · have h5 := WS_st hS (c := i) (v := q) (by omega) (by omega)
        refine j_aload_n (pc' := 31) C dX8_unseen_30 rfl 0 rfl ?_
        refine j_get (v := .ref aS) (pc' := 34) C KX8 0 10 rfl (by decide) fl_X8_19 rfl rfl dX8_unseen_31 rfl ?_
        refine j_bipush (v := (nI 21)) (pc' := 36) C dX8_unseen_34 rfl (by decide +kernel) ?_
        refine j_iload_n (pc' := 37) C dX8_unseen_36 rfl 3 rfl ?_
        refine j_iadd (v := (nI (21 + i))) (pc' := 38) C dX8_unseen_37 rfl (nI_add 21 i) ?_
        refine j_nald (pc' := 39) C 2 rfl (by omega) (by decide) dX8_unseen_38 rfl ?_
        refine j_istore (pc' := 41) C [(4, .int (nI (s (21 + i)))), (0, .ref a0), (1, .int (nI q)), (2, .int (nI z)), (3, .int (nI i))] dX8_unseen_39 rfl (by decide) rfl ?_
        refine j_aload_n (pc' := 42) C dX8_unseen_41 rfl 1 rfl ?_
        refine j_get (v := .ref aS) (pc' := 45) C KX8 0 10 rfl (by decide) fl_X8_19 rfl rfl dX8_unseen_42 rfl ?_
        refine j_bipush (v := (nI 21)) (pc' := 47) C dX8_unseen_45 rfl (by decide +kernel) ?_
        refine j_iload_n (pc' := 48) C dX8_unseen_47 rfl 4 rfl ?_
        refine j_iadd (v := (nI (21 + i))) (pc' := 49) C dX8_unseen_48 rfl (nI_add 21 i) ?_
        refine j_iload_n (pc' := 50) C dX8_unseen_49 rfl 2 rfl ?_
        refine j_nast (pc' := 51) C [(a0, .inr (8, [.int (nI 0), .ref aX, .int ty, .int sp, .int tk, .int pl, .int va, .int fa, .ref aT, .ref aD, .ref aS, .ref aU, .int um, .ref aK, .ref aI, .ref aL, .ref aE, .ref aF, .int (nI n), .ref aP, .ref aW, .int sn, .ref aB, .ref aM])), (aT, .inl (cyI, 42, .inl (nA t))), (aS, .inl (cyI, 30, .inl (nA (uN s (21 + i) q)))), (aL, .inl (cyI, 6, .inl (nA sl))), (aE, .inl (cyI, 6, .inl (nA ss))), (aF, .inl (cyI, 6, .inl (nA sf)))] 2 rfl (by omega) (by decide) dX8_unseen_50 rfl rfl ?_
        refine j_iconst (v := (nI 1)) (pc' := 52) C dX8_unseen_51 rfl (by decide +kernel) ?_
        refine j_istore (pc' := 54) C [(5, .int (nI 1)), (4, .int (nI (s (21 + i)))), (0, .ref a0), (1, .int (nI q)), (2, .int (nI z)), (3, .int (nI i))] dX8_unseen_52 rfl (by decide) rfl ?_
        refine j_iconst (v := (nI 0)) (pc' := 55) C dX8_unseen_54 rfl (by decide +kernel) ?_
        refine j_istore (pc' := 57) C [(6, .int (nI 0)), (5, .int (nI 1)), (4, .int (nI (s (21 + i)))), (0, .ref a0), (1, .int (nI q)), (2, .int (nI z)), (3, .int (nI i))] dX8_unseen_55 rfl (by decide) rfl ?_
        refine j_lsub [(0, .ref a0), (1, .int (nI q)), (2, .int (nI z)), (3, .int (nI i)), (4, .int (nI (s (21 + i)))), (5, .int (nI 1)), (6, .int (nI 0))] [3, 4, 5, 6, 2, 1, 0] rfl ?_
        refine j_loop2 (fun (e : Nat) (b : Bool) => [(a0, .inr (8, [.int (nI 0), .ref aX, .int ty, .int sp, .int tk, .int pl, .int va, .int fa, .ref aT, .ref aD, .ref aS, .ref aU, .int um, .ref aK, .ref aI, .ref aL, .ref aE, .ref aF, .int (nI n), .ref aP, .ref aW, .int sn, .ref aB, .ref aM])), (aT, .inl (cyI, 42, .inl (nA t))), (aS, .inl (cyI, 30, .inl (nA (uN s (21 + i) q)))), (aL, .inl (cyI, 6, .inl (nA sl))), (aE, .inl (cyI, 6, .inl (nA ss))), (aF, .inl (cyI, 6, .inl (nA sf)))]) (fun (e : Nat) (b : Bool) => [(0, .ref a0), (1, .int (nI q)), (2, .int (nI z)), (3, .int (nI i)), (4, .int (nI (s (21 + i)))), (5, .int (bI b)), (6, .int (nI e))]) (fun (e : Nat) (b : Bool) => []) (fun (e : Nat) (b : Bool) => e ≤ n ∧ b = agB t (uN s (21 + i) q) sl ss sf e) (fun (e : Nat) (b : Bool) => n - e) ?_ 0 true ?_
        · intro e b hI57 ih57
          obtain ⟨he, hb⟩ := hI57
          refine j_iload (pc' := 59) C dX8_unseen_57 rfl 6 rfl ?_
          refine j_aload_n (pc' := 60) C dX8_unseen_59 rfl 0 rfl ?_
          refine j_get (v := .int (nI n)) (pc' := 63) C KX8 0 18 rfl (by decide) fl_X8_124 rfl rfl dX8_unseen_60 rfl ?_
          refine j_nc_ge (pc' := 66) C 122 dX8_unseen_63 (by decide) rfl (by omega) (by omega) (fun c63 => ?_) (fun c63 => ?_)
          · refine j_aload_n (pc' := 123) C dX8_unseen_122 rfl 0 rfl ?_
            refine j_get (v := .ref aS) (pc' := 126) C KX8 0 10 rfl (by decide) fl_X8_19 rfl rfl dX8_unseen_123 rfl ?_
            refine j_bipush (v := (nI 21)) (pc' := 128) C dX8_unseen_126 rfl (by decide +kernel) ?_
            refine j_iload_n (pc' := 129) C dX8_unseen_128 rfl 3 rfl ?_
            refine j_iadd (v := (nI (21 + i))) (pc' := 130) C dX8_unseen_129 rfl (nI_add 21 i) ?_
            refine j_iload (pc' := 132) C dX8_unseen_130 rfl 4 rfl ?_
            refine j_nast (pc' := 133) C [(a0, .inr (8, [.int (nI 0), .ref aX, .int ty, .int sp, .int tk, .int pl, .int va, .int fa, .ref aT, .ref aD, .ref aS, .ref aU, .int um, .ref aK, .ref aI, .ref aL, .ref aE, .ref aF, .int (nI n), .ref aP, .ref aW, .int sn, .ref aB, .ref aM])), (aT, .inl (cyI, 42, .inl (nA t))), (aS, .inl (cyI, 30, .inl (nA (uN (uN s (21 + i) q) (21 + i) (s (21 + i)))))), (aL, .inl (cyI, 6, .inl (nA sl))), (aE, .inl (cyI, 6, .inl (nA ss))), (aF, .inl (cyI, 6, .inl (nA sf)))] 2 rfl (by omega) (by decide) dX8_unseen_132 rfl rfl ?_
            refine j_w [(a0, .inr (8, [.int (nI 0), .ref aX, .int ty, .int sp, .int tk, .int pl, .int va, .int fa, .ref aT, .ref aD, .ref aS, .ref aU, .int um, .ref aK, .ref aI, .ref aL, .ref aE, .ref aF, .int (nI n), .ref aP, .ref aW, .int sn, .ref aB, .ref aM])), (aT, .inl (cyI, 42, .inl (nA t))), (aS, .inl (cyI, 30, .inl (nA s))), (aL, .inl (cyI, 6, .inl (nA sl))), (aE, .inl (cyI, 6, .inl (nA ss))), (aF, .inl (cyI, 6, .inl (nA sf)))] (by rw [uN_back]) ?_
            refine j_iload_n (pc' := 134) C dX8_unseen_133 rfl 2 rfl ?_
            refine j_iload (pc' := 136) C dX8_unseen_134 rfl 5 rfl ?_
            refine j_b_eq (pc' := 139) C 145 dX8_unseen_136 (by decide) rfl (fun c136 => ?_) (fun c136 => ?_)
            · refine j_iconst (v := (nI 0)) (pc' := 146) C dX8_unseen_145 rfl (by decide +kernel) ?_
              refine j_ior (v := (nI (z ||| 0))) (pc' := 147) C dX8_unseen_146 rfl (fa_or z 0) ?_
              refine j_istore_n (pc' := 148) C [(2, .int (nI (z ||| 0))), (0, .ref a0), (1, .int (nI q)), (3, .int (nI i)), (4, .int (nI (s (21 + i)))), (5, .int (bI b)), (6, .int (nI e))] dX8_unseen_147 rfl (by decide) rfl ?_
              refine j_iinc (v := (nI (i + 1))) (pc' := 151) C [(3, .int (nI (i + 1))), (2, .int (nI (z ||| 0))), (0, .ref a0), (1, .int (nI q)), (4, .int (nI (s (21 + i)))), (5, .int (bI b)), (6, .int (nI e))] dX8_unseen_148 rfl 3 rfl (inc_n i 1) (by decide) rfl ?_
              refine j_goto C 20 dX8_unseen_151 (by decide) ?_
              refine j_lsub [(0, .ref a0), (1, .int (nI q)), (2, .int (nI (z ||| 0))), (3, .int (nI (i + 1)))] [2, 3, 1, 0] rfl ?_
              exact ih20 (i + 1) (z ||| 0) (⟨by omega, by rw [bsN, ← hz]; rw [show e = n by omega] at hb; show _ = z ||| (if agB t (uN s (21 + i) q) sl ss sf n = true then 2 ^ i else 0); rw [← hb, c136]; rfl⟩) (by omega)
            · refine j_iconst (v := (nI 1)) (pc' := 140) C dX8_unseen_139 rfl (by decide +kernel) ?_
              refine j_iload_n (pc' := 141) C dX8_unseen_140 rfl 3 rfl ?_
              refine j_ishl (v := (nI (2 ^ i))) (pc' := 142) C dX8_unseen_141 rfl (sh_1 (by omega)) ?_
              refine j_goto C 146 dX8_unseen_142 (by decide) ?_
              refine j_ior (v := (nI (z ||| (2 ^ i)))) (pc' := 147) C dX8_unseen_146 rfl (fa_or z (2 ^ i)) ?_
              refine j_istore_n (pc' := 148) C [(2, .int (nI (z ||| (2 ^ i)))), (0, .ref a0), (1, .int (nI q)), (3, .int (nI i)), (4, .int (nI (s (21 + i)))), (5, .int (bI b)), (6, .int (nI e))] dX8_unseen_147 rfl (by decide) rfl ?_
              refine j_iinc (v := (nI (i + 1))) (pc' := 151) C [(3, .int (nI (i + 1))), (2, .int (nI (z ||| (2 ^ i)))), (0, .ref a0), (1, .int (nI q)), (4, .int (nI (s (21 + i)))), (5, .int (bI b)), (6, .int (nI e))] dX8_unseen_148 rfl 3 rfl (inc_n i 1) (by decide) rfl ?_
              refine j_goto C 20 dX8_unseen_151 (by decide) ?_
              refine j_lsub [(0, .ref a0), (1, .int (nI q)), (2, .int (nI (z ||| (2 ^ i)))), (3, .int (nI (i + 1)))] [2, 3, 1, 0] rfl ?_
              exact ih20 (i + 1) (z ||| (2 ^ i)) (⟨by omega, by rw [bsN, ← hz]; rw [show e = n by omega] at hb; show _ = z ||| (if agB t (uN s (21 + i) q) sl ss sf n = true then 2 ^ i else 0); rw [← hb, c136]; rfl⟩) (by omega)
          · have h6 := hE.2 e c63
            refine j_iload (pc' := 68) C dX8_unseen_66 rfl 5 rfl ?_
            refine j_b_eq (pc' := 71) C 113 dX8_unseen_68 (by decide) rfl (fun c68 => ?_) (fun c68 => ?_)
            · refine j_iconst (v := (nI 0)) (pc' := 114) C dX8_unseen_113 rfl (by decide +kernel) ?_
              refine j_istore (pc' := 116) C [(5, .int (nI 0)), (0, .ref a0), (1, .int (nI q)), (2, .int (nI z)), (3, .int (nI i)), (4, .int (nI (s (21 + i)))), (6, .int (nI e))] dX8_unseen_114 rfl (by decide) rfl ?_
              refine j_iinc (v := (nI (e + 1))) (pc' := 119) C [(6, .int (nI (e + 1))), (5, .int (nI 0)), (0, .ref a0), (1, .int (nI q)), (2, .int (nI z)), (3, .int (nI i)), (4, .int (nI (s (21 + i))))] dX8_unseen_116 rfl 6 rfl (inc_n e 1) (by decide) rfl ?_
              refine j_goto C 57 dX8_unseen_119 (by decide) ?_
              refine j_lsub [(0, .ref a0), (1, .int (nI q)), (2, .int (nI z)), (3, .int (nI i)), (4, .int (nI (s (21 + i)))), (5, .int (nI 0)), (6, .int (nI (e + 1)))] [2, 3, 4, 5, 6, 1, 0] rfl ?_
              exact ih57 (e + 1) false (⟨by omega, by rw [agB, ← hb]; simp_all⟩) (by omega)
            · refine j_aload_n (pc' := 72) C dX8_unseen_71 rfl 0 rfl ?_
              refine j_aload_n (pc' := 73) C dX8_unseen_72 rfl 0 rfl ?_
              refine j_get (v := .ref aL) (pc' := 76) C KX8 0 15 rfl (by decide) fl_X8_32 rfl rfl dX8_unseen_73 rfl ?_
              refine j_iload (pc' := 78) C dX8_unseen_76 rfl 6 rfl ?_
              refine j_nald (pc' := 79) C 3 rfl (by omega) (by decide) dX8_unseen_78 rfl ?_
              refine j_aload_n (pc' := 80) C dX8_unseen_79 rfl 0 rfl ?_
              refine j_get (v := .ref aE) (pc' := 83) C KX8 0 16 rfl (by decide) fl_X8_35 rfl rfl dX8_unseen_80 rfl ?_
              refine j_iload (pc' := 85) C dX8_unseen_83 rfl 6 rfl ?_
              refine j_nald (pc' := 86) C 4 rfl (by omega) (by decide) dX8_unseen_85 rfl ?_
              refine j_iconst (v := (nI 0)) (pc' := 87) C dX8_unseen_86 rfl (by decide +kernel) ?_
              refine j_cVi (As := [.int (nI (sl e)), .int (nI (ss e)), .int (nI 0)]) (wr := [(aL, .inl (cyI, 6, .inl (nA sl))), (aE, .inl (cyI, 6, .inl (nA ss))), (aF, .inl (cyI, 6, .inl (nA sf)))]) (pc' := 90) C (c_X8_isFed (a0 := a0) (th := (nI 0)) (aX := aX) (ty := ty) (sp := sp) (tk := tk) (pl := pl) (va := va) (fa := fa) (aT := aT) (aD := aD) (aS := aS) (aU := aU) (um := um) (aK := aK) (aI := aI) (aL := aL) (aE := aE) (aF := aF) (sm := (nI n)) (aP := aP) (aW := aW) (sn := sn) (aB := aB) (aM := aM) (t := t) (s := uN s (21 + i) q) (l := sl e) (st := ss e) (wo := 0) (hT := by first | assumption | omega) (hS := h5) (hl := by first | assumption | omega) (hst := by first | assumption | omega) (hwo := by first | assumption | omega)) Y_X8_isFed (ml_X8_144) [0, 1, 2] [3, 4, 5] rfl rfl rfl rfl (by decide) rfl rfl rfl dX8_unseen_87 rfl rfl rfl (Nat.le_of_ble_eq_true rfl) ⟨Nat.le_of_ble_eq_true rfl, Nat.le_of_ble_eq_true rfl⟩ ⟨Nat.le_of_ble_eq_true rfl, Nat.le_of_ble_eq_true rfl⟩ ⟨rfl, rfl⟩ (fun r2 w1 hQ => ?_)
              obtain ⟨rfl, rfl⟩ := hQ
              refine j_perm [(a0, .inr (8, [.int (nI 0), .ref aX, .int ty, .int sp, .int tk, .int pl, .int va, .int fa, .ref aT, .ref aD, .ref aS, .ref aU, .int um, .ref aK, .ref aI, .ref aL, .ref aE, .ref aF, .int (nI n), .ref aP, .ref aW, .int sn, .ref aB, .ref aM])), (aT, .inl (cyI, 42, .inl (nA t))), (aS, .inl (cyI, 30, .inl (nA (uN s (21 + i) q)))), (aL, .inl (cyI, 6, .inl (nA sl))), (aE, .inl (cyI, 6, .inl (nA ss))), (aF, .inl (cyI, 6, .inl (nA sf)))] [3, 4, 5, 0, 1, 2] rfl rfl (by decide) ?_
              refine j_aload_n (pc' := 91) C dX8_unseen_90 rfl 0 rfl ?_
              refine j_get (v := .ref aF) (pc' := 94) C KX8 0 17 rfl (by decide) fl_X8_38 rfl rfl dX8_unseen_91 rfl ?_
              refine j_iload (pc' := 96) C dX8_unseen_94 rfl 6 rfl ?_
              refine j_nald (pc' := 97) C 5 rfl (by omega) (by decide) dX8_unseen_96 rfl ?_
              refine j_iconst (v := (nI 1)) (pc' := 98) C dX8_unseen_97 rfl (by decide +kernel) ?_
              refine j_nc_ne (pc' := 101) C 105 dX8_unseen_98 (by decide) rfl (by omega) (by omega) (fun c98 => ?_) (fun c98 => ?_)
              · refine j_iconst (v := (nI 0)) (pc' := 106) C dX8_unseen_105 rfl (by decide +kernel) ?_
                refine j_b0_ne (pc' := 109) C 113 dX8_unseen_106 (by decide) rfl (fun c106 => ?_) (fun c106 => ?_)
                · refine j_iconst (v := (nI 0)) (pc' := 114) C dX8_unseen_113 rfl (by decide +kernel) ?_
                  refine j_istore (pc' := 116) C [(5, .int (nI 0)), (0, .ref a0), (1, .int (nI q)), (2, .int (nI z)), (3, .int (nI i)), (4, .int (nI (s (21 + i)))), (6, .int (nI e))] dX8_unseen_114 rfl (by decide) rfl ?_
                  refine j_iinc (v := (nI (e + 1))) (pc' := 119) C [(6, .int (nI (e + 1))), (5, .int (nI 0)), (0, .ref a0), (1, .int (nI q)), (2, .int (nI z)), (3, .int (nI i)), (4, .int (nI (s (21 + i))))] dX8_unseen_116 rfl 6 rfl (inc_n e 1) (by decide) rfl ?_
                  refine j_goto C 57 dX8_unseen_119 (by decide) ?_
                  refine j_lsub [(0, .ref a0), (1, .int (nI q)), (2, .int (nI z)), (3, .int (nI i)), (4, .int (nI (s (21 + i)))), (5, .int (nI 0)), (6, .int (nI (e + 1)))] [2, 3, 4, 5, 6, 1, 0] rfl ?_
                  exact ih57 (e + 1) false (⟨by omega, by rw [agB, ← hb]; simp_all⟩) (by omega)
                · refine j_iconst (v := (nI 1)) (pc' := 110) C dX8_unseen_109 rfl (by decide +kernel) ?_
                  refine j_goto C 114 dX8_unseen_110 (by decide) ?_
                  refine j_istore (pc' := 116) C [(5, .int (nI 1)), (0, .ref a0), (1, .int (nI q)), (2, .int (nI z)), (3, .int (nI i)), (4, .int (nI (s (21 + i)))), (6, .int (nI e))] dX8_unseen_114 rfl (by decide) rfl ?_
                  refine j_iinc (v := (nI (e + 1))) (pc' := 119) C [(6, .int (nI (e + 1))), (5, .int (nI 1)), (0, .ref a0), (1, .int (nI q)), (2, .int (nI z)), (3, .int (nI i)), (4, .int (nI (s (21 + i))))] dX8_unseen_116 rfl 6 rfl (inc_n e 1) (by decide) rfl ?_
                  refine j_goto C 57 dX8_unseen_119 (by decide) ?_
                  refine j_lsub [(0, .ref a0), (1, .int (nI q)), (2, .int (nI z)), (3, .int (nI i)), (4, .int (nI (s (21 + i)))), (5, .int (nI 1)), (6, .int (nI (e + 1)))] [2, 3, 4, 5, 6, 1, 0] rfl ?_
                  exact ih57 (e + 1) true (⟨by omega, by rw [agB, ← hb]; simp_all⟩) (by omega)
              · refine j_iconst (v := (nI 1)) (pc' := 102) C dX8_unseen_101 rfl (by decide +kernel) ?_
                refine j_goto C 106 dX8_unseen_102 (by decide) ?_
                refine j_b1_ne (pc' := 109) C 113 dX8_unseen_106 (by decide) rfl (fun c106 => ?_) (fun c106 => ?_)
                · refine j_iconst (v := (nI 0)) (pc' := 114) C dX8_unseen_113 rfl (by decide +kernel) ?_
                  refine j_istore (pc' := 116) C [(5, .int (nI 0)), (0, .ref a0), (1, .int (nI q)), (2, .int (nI z)), (3, .int (nI i)), (4, .int (nI (s (21 + i)))), (6, .int (nI e))] dX8_unseen_114 rfl (by decide) rfl ?_
                  refine j_iinc (v := (nI (e + 1))) (pc' := 119) C [(6, .int (nI (e + 1))), (5, .int (nI 0)), (0, .ref a0), (1, .int (nI q)), (2, .int (nI z)), (3, .int (nI i)), (4, .int (nI (s (21 + i))))] dX8_unseen_116 rfl 6 rfl (inc_n e 1) (by decide) rfl ?_
                  refine j_goto C 57 dX8_unseen_119 (by decide) ?_
                  refine j_lsub [(0, .ref a0), (1, .int (nI q)), (2, .int (nI z)), (3, .int (nI i)), (4, .int (nI (s (21 + i)))), (5, .int (nI 0)), (6, .int (nI (e + 1)))] [2, 3, 4, 5, 6, 1, 0] rfl ?_
                  exact ih57 (e + 1) false (⟨by omega, by rw [agB, ← hb]; simp_all⟩) (by omega)
                · refine j_iconst (v := (nI 1)) (pc' := 110) C dX8_unseen_109 rfl (by decide +kernel) ?_
                  refine j_goto C 114 dX8_unseen_110 (by decide) ?_
                  refine j_istore (pc' := 116) C [(5, .int (nI 1)), (0, .ref a0), (1, .int (nI q)), (2, .int (nI z)), (3, .int (nI i)), (4, .int (nI (s (21 + i)))), (6, .int (nI e))] dX8_unseen_114 rfl (by decide) rfl ?_
                  refine j_iinc (v := (nI (e + 1))) (pc' := 119) C [(6, .int (nI (e + 1))), (5, .int (nI 1)), (0, .ref a0), (1, .int (nI q)), (2, .int (nI z)), (3, .int (nI i)), (4, .int (nI (s (21 + i))))] dX8_unseen_116 rfl 6 rfl (inc_n e 1) (by decide) rfl ?_
                  refine j_goto C 57 dX8_unseen_119 (by decide) ?_
                  refine j_lsub [(0, .ref a0), (1, .int (nI q)), (2, .int (nI z)), (3, .int (nI i)), (4, .int (nI (s (21 + i)))), (5, .int (nI 1)), (6, .int (nI (e + 1)))] [2, 3, 4, 5, 6, 1, 0] rfl ?_
                  exact ih57 (e + 1) true (⟨by omega, by rw [agB, ← hb]; simp_all⟩) (by omega)
        · exact ⟨Nat.zero_le _, rfl⟩
    · exact ⟨Nat.zero_le _, rfl⟩
  · have c11b := of_decide_eq_false c11
    rw [nI_toInt (n := 1) (by decide), nI_toInt (n := 2) (by decide)] at c11b
    refine j_iconst (v := (-1)) (pc' := 15) C dX8_unseen_14 rfl (by decide +kernel) ?_
    exact j_iret C hr hk hA dX8_unseen_15 (rfl) (⟨rfl, (by unfold usQ; rw [if_pos ?_]; cases hq : inR w 3 <;> simp; have hq2 := of_decide_eq_true hq; apply Int32.toInt_inj.mp; rw [nI_toInt (n := 0) (by decide)]; omega)⟩)

set_option maxHeartbeats 4000000 in
set_option maxRecDepth 100000 in
theorem c_X8_keep {lch : Launch} {dG : va_G} {cyI cyZ cyO : ClassId} (a0 : Nat) (th : Int32) (aX : Nat) (ty : Int32) (sp : Int32) (tk : Int32) (pl : Int32) (va : Int32) (fa : Int32) (aT : Nat) (aD : Nat) (aS : Nat) (aU : Nat) (um : Int32) (aK : Nat) (aI : Nat) (aL : Nat) (aE : Nat) (aF : Nat) (sm : Int32) (aP : Nat) (aW : Nat) (sn : Int32) (aB : Nat) (aM : Nat) (t : Nat → Nat) (s : Nat → Nat) (kp : Nat → Nat) (ik : Nat → Bool) (w : Int32) (hT : WT t) : Ki lch yX8_keep cX8_keep 3 .int (rmk 2) dG (cyI, cyZ, cyO) [.ref a0, .int w] [(a0, .inr (8, [.int th, .ref aX, .int ty, .int sp, .int tk, .int pl, .int va, .int fa, .ref aT, .ref aD, .ref aS, .ref aU, .int um, .ref aK, .ref aI, .ref aL, .ref aE, .ref aF, .int sm, .ref aP, .ref aW, .int sn, .ref aB, .ref aM])), (aT, .inl (cyI, 42, .inl (nA t))), (aS, .inl (cyI, 30, .inl (nA s))), (aK, .inl (cyI, 60, .inl (nA kp))), (aI, .inl (cyZ, 2, .inl (bA ik)))] (fun r w1 => ∃ (k1 : Nat → Nat), ∃ (i1 : Nat → Bool), w1 = [(a0, .inr (8, [.int (nI 0), .ref aX, .int ty, .int sp, .int tk, .int pl, .int va, .int fa, .ref aT, .ref aD, .ref aS, .ref aU, .int um, .ref aK, .ref aI, .ref aL, .ref aE, .ref aF, .int sm, .ref aP, .ref aW, .int sn, .ref aB, .ref aM])), (aT, .inl (cyI, 42, .inl (nA t))), (aS, .inl (cyI, 30, .inl (nA s))), (aK, .inl (cyI, 60, .inl (nA k1))), (aI, .inl (cyZ, 2, .inl (bA i1)))] ∧ (r, k1, i1) = kpQ t s kp ik w) := by
  refine Ki.of (own := RX8) rfl (by decide) (Nat.le_of_ble_eq_true rfl) (fun p0 e0 s0 m0 ar0 be0 me0 cd0 A0 C hr hk hnm hA => ?_)
  refine j_lsub [(0, .ref a0), (1, .int w)] [0, 1] rfl ?_
  refine j_aload_n (pc' := 1) C dX8_keep_0 rfl 0 rfl ?_
  refine j_iconst (v := (nI 0)) (pc' := 2) C dX8_keep_1 rfl (by decide +kernel) ?_
  refine j_put (pc' := 5) C [(a0, .inr (8, [.int (nI 0), .ref aX, .int ty, .int sp, .int tk, .int pl, .int va, .int fa, .ref aT, .ref aD, .ref aS, .ref aU, .int um, .ref aK, .ref aI, .ref aL, .ref aE, .ref aF, .int sm, .ref aP, .ref aW, .int sn, .ref aB, .ref aM])), (aT, .inl (cyI, 42, .inl (nA t))), (aS, .inl (cyI, 30, .inl (nA s))), (aK, .inl (cyI, 60, .inl (nA kp))), (aI, .inl (cyZ, 2, .inl (bA ik)))] KX8 0 0 rfl (by decide) fl_X8_59 rfl rfl rfl rfl (Nat.le_of_ble_eq_true rfl) dX8_keep_2 rfl rfl ?_
  refine j_iload_n (pc' := 6) C dX8_keep_5 rfl 1 rfl ?_
  refine j_iconst (v := (nI 0)) (pc' := 7) C dX8_keep_6 rfl (by decide +kernel) ?_
  refine j_iconst (v := (nI 1)) (pc' := 8) C dX8_keep_7 rfl (by decide +kernel) ?_
  refine j_cSi (As := [.int w, .int (nI 0), .int (nI 1)]) (wr := [(a0, .inr (8, [.int (nI 0), .ref aX, .int ty, .int sp, .int tk, .int pl, .int va, .int fa, .ref aT, .ref aD, .ref aS, .ref aU, .int um, .ref aK, .ref aI, .ref aL, .ref aE, .ref aF, .int sm, .ref aP, .ref aW, .int sn, .ref aB, .ref aM])), (aT, .inl (cyI, 42, .inl (nA t))), (aS, .inl (cyI, 30, .inl (nA s))), (aK, .inl (cyI, 60, .inl (nA kp))), (aI, .inl (cyZ, 2, .inl (bA ik)))]) (pc' := 11) C (c_X8_in (x := w) (a := (nI 0)) (b := (nI 1)) ) Y_X8_in (ml_X8_63) [] [0, 1, 2, 3, 4] rfl rfl rfl rfl (by decide) dX8_keep_8 rfl rfl rfl (Nat.le_of_ble_eq_true rfl) ⟨Nat.le_of_ble_eq_true rfl, Nat.le_of_ble_eq_true rfl⟩ ⟨Nat.le_of_ble_eq_true rfl, Nat.le_of_ble_eq_true rfl⟩ ⟨rfl, rfl⟩ (fun r1 w1 hQ => ?_)
  obtain ⟨rfl, rfl⟩ := hQ
  refine j_perm [(a0, .inr (8, [.int (nI 0), .ref aX, .int ty, .int sp, .int tk, .int pl, .int va, .int fa, .ref aT, .ref aD, .ref aS, .ref aU, .int um, .ref aK, .ref aI, .ref aL, .ref aE, .ref aF, .int sm, .ref aP, .ref aW, .int sn, .ref aB, .ref aM])), (aT, .inl (cyI, 42, .inl (nA t))), (aS, .inl (cyI, 30, .inl (nA s))), (aK, .inl (cyI, 60, .inl (nA kp))), (aI, .inl (cyZ, 2, .inl (bA ik)))] [0, 1, 2, 3, 4] rfl rfl (by decide) ?_
  refine j_b_ne (pc' := 14) C 16 dX8_keep_11 (by decide) rfl (fun c11 => ?_) (fun c11 => ?_)
  · rw [in_R2 _ _ (by omega)] at c11
    obtain ⟨q, hq, rfl⟩ := inR_t c11 (by omega)
    refine j_iconst (v := (nI 0)) (pc' := 17) C dX8_keep_16 rfl (by decide +kernel) ?_
    refine j_istore_n (pc' := 18) C [(2, .int (nI 0)), (0, .ref a0), (1, .int (nI q))] dX8_keep_17 rfl (by decide) rfl ?_
    refine j_lsub [(0, .ref a0), (1, .int (nI q)), (2, .int (nI 0))] [1, 2, 0] rfl ?_
    refine j_loop2 (fun (i : Nat) (y : Nat → Nat) => [(a0, .inr (8, [.int (nI 0), .ref aX, .int ty, .int sp, .int tk, .int pl, .int va, .int fa, .ref aT, .ref aD, .ref aS, .ref aU, .int um, .ref aK, .ref aI, .ref aL, .ref aE, .ref aF, .int sm, .ref aP, .ref aW, .int sn, .ref aB, .ref aM])), (aT, .inl (cyI, 42, .inl (nA t))), (aS, .inl (cyI, 30, .inl (nA s))), (aK, .inl (cyI, 60, .inl (nA y))), (aI, .inl (cyZ, 2, .inl (bA ik)))]) (fun (i : Nat) (y : Nat → Nat) => [(0, .ref a0), (1, .int (nI q)), (2, .int (nI i))]) (fun (i : Nat) (y : Nat → Nat) => []) (fun (i : Nat) (y : Nat → Nat) => i ≤ 30 ∧ y = flN kp s (30 * q) i) (fun (i : Nat) (y : Nat → Nat) => 30 - i) ?_ 0 kp ?_
    · intro i y hI18 ih18
      obtain ⟨hi, hy⟩ := hI18
      refine j_iload_n (pc' := 19) C dX8_keep_18 rfl 2 rfl ?_
      refine j_bipush (v := (nI 30)) (pc' := 21) C dX8_keep_19 rfl (by decide +kernel) ?_
      refine j_nc_ge (pc' := 24) C 47 dX8_keep_21 (by decide) rfl (by omega) (by omega) (fun c21 => ?_) (fun c21 => ?_)
      · refine j_aload_n (pc' := 48) C dX8_keep_47 rfl 0 rfl ?_
        refine j_get (v := .ref aI) (pc' := 51) C KX8 0 14 rfl (by decide) fl_X8_28 rfl rfl dX8_keep_48 rfl ?_
        refine j_iload_n (pc' := 52) C dX8_keep_51 rfl 1 rfl ?_
        refine j_iconst (v := (nI 1)) (pc' := 53) C dX8_keep_52 rfl (by decide +kernel) ?_
        refine j_top (bI true) (by decide +kernel) ?_
        refine j_zast (pc' := 54) C [(a0, .inr (8, [.int (nI 0), .ref aX, .int ty, .int sp, .int tk, .int pl, .int va, .int fa, .ref aT, .ref aD, .ref aS, .ref aU, .int um, .ref aK, .ref aI, .ref aL, .ref aE, .ref aF, .int sm, .ref aP, .ref aW, .int sn, .ref aB, .ref aM])), (aT, .inl (cyI, 42, .inl (nA t))), (aS, .inl (cyI, 30, .inl (nA s))), (aK, .inl (cyI, 60, .inl (nA y))), (aI, .inl (cyZ, 2, .inl (bA (uB ik q true))))] 4 rfl (by omega) (by decide) dX8_keep_53 rfl rfl ?_
        refine j_aload_n (pc' := 55) C dX8_keep_54 rfl 0 rfl ?_
        refine j_get (v := .ref aT) (pc' := 58) C KX8 0 8 rfl (by decide) fl_X8_13 rfl rfl dX8_keep_55 rfl ?_
        refine j_iconst (v := (nI 1)) (pc' := 59) C dX8_keep_58 rfl (by decide +kernel) ?_
        refine j_nald (pc' := 60) C 1 rfl (by omega) (by decide) dX8_keep_59 rfl ?_
        exact j_iret C hr hk hA dX8_keep_60 (rfl) (⟨_, _, rfl, by unfold kpQ; rw [if_neg (by simp_all), nI_clamp (by omega), hy, show i = 30 by omega]⟩)
      · refine j_aload_n (pc' := 25) C dX8_keep_24 rfl 0 rfl ?_
        refine j_get (v := .ref aK) (pc' := 28) C KX8 0 13 rfl (by decide) fl_X8_25 rfl rfl dX8_keep_25 rfl ?_
        refine j_bipush (v := (nI 30)) (pc' := 30) C dX8_keep_28 rfl (by decide +kernel) ?_
        refine j_iload_n (pc' := 31) C dX8_keep_30 rfl 1 rfl ?_
        refine j_imul (v := (nI (30 * q))) (pc' := 32) C dX8_keep_31 rfl (pk_mul 30 q) ?_
        refine j_iload_n (pc' := 33) C dX8_keep_32 rfl 2 rfl ?_
        refine j_iadd (v := (nI ((30 * q) + i))) (pc' := 34) C dX8_keep_33 rfl (nI_add (30 * q) i) ?_
        refine j_aload_n (pc' := 35) C dX8_keep_34 rfl 0 rfl ?_
        refine j_get (v := .ref aS) (pc' := 38) C KX8 0 10 rfl (by decide) fl_X8_19 rfl rfl dX8_keep_35 rfl ?_
        refine j_iload_n (pc' := 39) C dX8_keep_38 rfl 2 rfl ?_
        refine j_nald (pc' := 40) C 2 rfl (by omega) (by decide) dX8_keep_39 rfl ?_
        refine j_nast (pc' := 41) C [(a0, .inr (8, [.int (nI 0), .ref aX, .int ty, .int sp, .int tk, .int pl, .int va, .int fa, .ref aT, .ref aD, .ref aS, .ref aU, .int um, .ref aK, .ref aI, .ref aL, .ref aE, .ref aF, .int sm, .ref aP, .ref aW, .int sn, .ref aB, .ref aM])), (aT, .inl (cyI, 42, .inl (nA t))), (aS, .inl (cyI, 30, .inl (nA s))), (aK, .inl (cyI, 60, .inl (nA (uN y ((30 * q) + i) (s i))))), (aI, .inl (cyZ, 2, .inl (bA ik)))] 3 rfl (by omega) (by decide) dX8_keep_40 rfl rfl ?_
        refine j_iinc (v := (nI (i + 1))) (pc' := 44) C [(2, .int (nI (i + 1))), (0, .ref a0), (1, .int (nI q))] dX8_keep_41 rfl 2 rfl (inc_n i 1) (by decide) rfl ?_
        refine j_goto C 18 dX8_keep_44 (by decide) ?_
        refine j_lsub [(0, .ref a0), (1, .int (nI q)), (2, .int (nI (i + 1)))] [1, 2, 0] rfl ?_
        exact ih18 (i + 1) (uN y ((30 * q) + i) (s i)) (⟨by omega, by rw [hy, ← flN_s]⟩) (by omega)
    · exact ⟨Nat.zero_le _, (flN_0 _ _ _).symm⟩
  · rw [in_R2 _ _ (by omega)] at c11
    refine j_iconst (v := (-1)) (pc' := 15) C dX8_keep_14 rfl (by decide +kernel) ?_
    exact j_iret C hr hk hA dX8_keep_15 (rfl) (⟨kp, ik, rfl, by unfold kpQ; rw [if_pos c11]⟩)

set_option maxHeartbeats 4000000 in
set_option maxRecDepth 100000 in
theorem c_X8_back {lch : Launch} {dG : va_G} {cyI cyZ cyO : ClassId} (a0 : Nat) (th : Int32) (aX : Nat) (ty : Int32) (sp : Int32) (tk : Int32) (pl : Int32) (va : Int32) (fa : Int32) (aT : Nat) (aD : Nat) (aS : Nat) (aU : Nat) (aK : Nat) (aI : Nat) (aL : Nat) (aE : Nat) (aF : Nat) (sm : Int32) (aP : Nat) (aW : Nat) (sn : Int32) (aB : Nat) (aM : Nat) (t : Nat → Nat) (s : Nat → Nat) (kp : Nat → Nat) (ik : Nat → Bool) (n : Nat) (w : Int32) (hT : WT t) : Ki lch yX8_back cX8_back 3 .int (rmk 2) dG (cyI, cyZ, cyO) [.ref a0, .int w] [(a0, .inr (8, [.int th, .ref aX, .int ty, .int sp, .int tk, .int pl, .int va, .int fa, .ref aT, .ref aD, .ref aS, .ref aU, .int (nI n), .ref aK, .ref aI, .ref aL, .ref aE, .ref aF, .int sm, .ref aP, .ref aW, .int sn, .ref aB, .ref aM])), (aT, .inl (cyI, 42, .inl (nA t))), (aS, .inl (cyI, 30, .inl (nA s))), (aK, .inl (cyI, 60, .inl (nA kp))), (aI, .inl (cyZ, 2, .inl (bA ik)))] (fun r w1 => ∃ (s1 : Nat → Nat), ∃ (n1 : Nat), w1 = [(a0, .inr (8, [.int (nI 0), .ref aX, .int ty, .int sp, .int tk, .int pl, .int va, .int fa, .ref aT, .ref aD, .ref aS, .ref aU, .int (nI n1), .ref aK, .ref aI, .ref aL, .ref aE, .ref aF, .int sm, .ref aP, .ref aW, .int sn, .ref aB, .ref aM])), (aT, .inl (cyI, 42, .inl (nA t))), (aS, .inl (cyI, 30, .inl (nA s1))), (aK, .inl (cyI, 60, .inl (nA kp))), (aI, .inl (cyZ, 2, .inl (bA ik)))] ∧ (r, s1, n1) = bkQ t s kp ik n w) := by
  refine Ki.of (own := RX8) rfl (by decide) (Nat.le_of_ble_eq_true rfl) (fun p0 e0 s0 m0 ar0 be0 me0 cd0 A0 C hr hk hnm hA => ?_)
  refine j_lsub [(0, .ref a0), (1, .int w)] [0, 1] rfl ?_
  refine j_aload_n (pc' := 1) C dX8_back_0 rfl 0 rfl ?_
  refine j_iconst (v := (nI 0)) (pc' := 2) C dX8_back_1 rfl (by decide +kernel) ?_
  refine j_put (pc' := 5) C [(a0, .inr (8, [.int (nI 0), .ref aX, .int ty, .int sp, .int tk, .int pl, .int va, .int fa, .ref aT, .ref aD, .ref aS, .ref aU, .int (nI n), .ref aK, .ref aI, .ref aL, .ref aE, .ref aF, .int sm, .ref aP, .ref aW, .int sn, .ref aB, .ref aM])), (aT, .inl (cyI, 42, .inl (nA t))), (aS, .inl (cyI, 30, .inl (nA s))), (aK, .inl (cyI, 60, .inl (nA kp))), (aI, .inl (cyZ, 2, .inl (bA ik)))] KX8 0 0 rfl (by decide) fl_X8_59 rfl rfl rfl rfl (Nat.le_of_ble_eq_true rfl) dX8_back_2 rfl rfl ?_
  refine j_iload_n (pc' := 6) C dX8_back_5 rfl 1 rfl ?_
  refine j_iconst (v := (nI 0)) (pc' := 7) C dX8_back_6 rfl (by decide +kernel) ?_
  refine j_iconst (v := (nI 1)) (pc' := 8) C dX8_back_7 rfl (by decide +kernel) ?_
  refine j_cSi (As := [.int w, .int (nI 0), .int (nI 1)]) (wr := [(a0, .inr (8, [.int (nI 0), .ref aX, .int ty, .int sp, .int tk, .int pl, .int va, .int fa, .ref aT, .ref aD, .ref aS, .ref aU, .int (nI n), .ref aK, .ref aI, .ref aL, .ref aE, .ref aF, .int sm, .ref aP, .ref aW, .int sn, .ref aB, .ref aM])), (aT, .inl (cyI, 42, .inl (nA t))), (aS, .inl (cyI, 30, .inl (nA s))), (aK, .inl (cyI, 60, .inl (nA kp))), (aI, .inl (cyZ, 2, .inl (bA ik)))]) (pc' := 11) C (c_X8_in (x := w) (a := (nI 0)) (b := (nI 1)) ) Y_X8_in (ml_X8_63) [] [0, 1, 2, 3, 4] rfl rfl rfl rfl (by decide) dX8_back_8 rfl rfl rfl (Nat.le_of_ble_eq_true rfl) ⟨Nat.le_of_ble_eq_true rfl, Nat.le_of_ble_eq_true rfl⟩ ⟨Nat.le_of_ble_eq_true rfl, Nat.le_of_ble_eq_true rfl⟩ ⟨rfl, rfl⟩ (fun r1 w1 hQ => ?_)
  obtain ⟨rfl, rfl⟩ := hQ
  refine j_perm [(a0, .inr (8, [.int (nI 0), .ref aX, .int ty, .int sp, .int tk, .int pl, .int va, .int fa, .ref aT, .ref aD, .ref aS, .ref aU, .int (nI n), .ref aK, .ref aI, .ref aL, .ref aE, .ref aF, .int sm, .ref aP, .ref aW, .int sn, .ref aB, .ref aM])), (aT, .inl (cyI, 42, .inl (nA t))), (aS, .inl (cyI, 30, .inl (nA s))), (aK, .inl (cyI, 60, .inl (nA kp))), (aI, .inl (cyZ, 2, .inl (bA ik)))] [0, 1, 2, 3, 4] rfl rfl (by decide) ?_
  refine j_b_ne (pc' := 14) C 16 dX8_back_11 (by decide) rfl (fun c11 => ?_) (fun c11 => ?_)
  · rw [in_R2 _ _ (by omega)] at c11
    obtain ⟨q, hq, rfl⟩ := inR_t c11 (by omega)
    refine j_aload_n (pc' := 17) C dX8_back_16 rfl 0 rfl ?_
    refine j_get (v := .ref aI) (pc' := 20) C KX8 0 14 rfl (by decide) fl_X8_28 rfl rfl dX8_back_17 rfl ?_
    refine j_iload_n (pc' := 21) C dX8_back_20 rfl 1 rfl ?_
    refine j_zald (pc' := 22) C 4 rfl (by omega) (by decide) dX8_back_21 rfl ?_
    refine j_b_ne (pc' := 25) C 28 dX8_back_22 (by decide) rfl (fun c22 => ?_) (fun c22 => ?_)
    · refine j_iconst (v := (nI 0)) (pc' := 29) C dX8_back_28 rfl (by decide +kernel) ?_
      refine j_istore_n (pc' := 30) C [(2, .int (nI 0)), (0, .ref a0), (1, .int (nI q))] dX8_back_29 rfl (by decide) rfl ?_
      refine j_lsub [(0, .ref a0), (1, .int (nI q)), (2, .int (nI 0))] [1, 2, 0] rfl ?_
      refine j_loop2 (fun (i : Nat) (y : Nat → Nat) => [(a0, .inr (8, [.int (nI 0), .ref aX, .int ty, .int sp, .int tk, .int pl, .int va, .int fa, .ref aT, .ref aD, .ref aS, .ref aU, .int (nI n), .ref aK, .ref aI, .ref aL, .ref aE, .ref aF, .int sm, .ref aP, .ref aW, .int sn, .ref aB, .ref aM])), (aT, .inl (cyI, 42, .inl (nA t))), (aS, .inl (cyI, 30, .inl (nA y))), (aK, .inl (cyI, 60, .inl (nA kp))), (aI, .inl (cyZ, 2, .inl (bA ik)))]) (fun (i : Nat) (y : Nat → Nat) => [(0, .ref a0), (1, .int (nI q)), (2, .int (nI i))]) (fun (i : Nat) (y : Nat → Nat) => []) (fun (i : Nat) (y : Nat → Nat) => i ≤ 30 ∧ y = flN s (fun k => kp (30 * q + k)) 0 i) (fun (i : Nat) (y : Nat → Nat) => 30 - i) ?_ 0 s ?_
      · intro i y hI30 ih30
        obtain ⟨hi, hy⟩ := hI30
        refine j_iload_n (pc' := 31) C dX8_back_30 rfl 2 rfl ?_
        refine j_bipush (v := (nI 30)) (pc' := 33) C dX8_back_31 rfl (by decide +kernel) ?_
        refine j_nc_ge (pc' := 36) C 59 dX8_back_33 (by decide) rfl (by omega) (by omega) (fun c33 => ?_) (fun c33 => ?_)
        · refine j_aload_n (pc' := 60) C dX8_back_59 rfl 0 rfl ?_
          refine j_iconst (v := (nI 0)) (pc' := 61) C dX8_back_60 rfl (by decide +kernel) ?_
          refine j_put (pc' := 64) C [(a0, .inr (8, [.int (nI 0), .ref aX, .int ty, .int sp, .int tk, .int pl, .int va, .int fa, .ref aT, .ref aD, .ref aS, .ref aU, .int (nI 0), .ref aK, .ref aI, .ref aL, .ref aE, .ref aF, .int sm, .ref aP, .ref aW, .int sn, .ref aB, .ref aM])), (aT, .inl (cyI, 42, .inl (nA t))), (aS, .inl (cyI, 30, .inl (nA y))), (aK, .inl (cyI, 60, .inl (nA kp))), (aI, .inl (cyZ, 2, .inl (bA ik)))] KX8 0 12 rfl (by decide) fl_X8_127 rfl rfl rfl rfl (Nat.le_of_ble_eq_true rfl) dX8_back_61 rfl rfl ?_
          refine j_aload_n (pc' := 65) C dX8_back_64 rfl 0 rfl ?_
          refine j_get (v := .ref aT) (pc' := 68) C KX8 0 8 rfl (by decide) fl_X8_13 rfl rfl dX8_back_65 rfl ?_
          refine j_iconst (v := (nI 1)) (pc' := 69) C dX8_back_68 rfl (by decide +kernel) ?_
          refine j_nald (pc' := 70) C 1 rfl (by omega) (by decide) dX8_back_69 rfl ?_
          exact j_iret C hr hk hA dX8_back_70 (rfl) (⟨_, _, rfl, by unfold bkQ snp; rw [if_neg (by simp_all), nI_clamp (by omega), if_neg (by simp_all), hy, show i = 30 by omega]⟩)
        · refine j_aload_n (pc' := 37) C dX8_back_36 rfl 0 rfl ?_
          refine j_get (v := .ref aS) (pc' := 40) C KX8 0 10 rfl (by decide) fl_X8_19 rfl rfl dX8_back_37 rfl ?_
          refine j_iload_n (pc' := 41) C dX8_back_40 rfl 2 rfl ?_
          refine j_aload_n (pc' := 42) C dX8_back_41 rfl 0 rfl ?_
          refine j_get (v := .ref aK) (pc' := 45) C KX8 0 13 rfl (by decide) fl_X8_25 rfl rfl dX8_back_42 rfl ?_
          refine j_bipush (v := (nI 30)) (pc' := 47) C dX8_back_45 rfl (by decide +kernel) ?_
          refine j_iload_n (pc' := 48) C dX8_back_47 rfl 1 rfl ?_
          refine j_imul (v := (nI (30 * q))) (pc' := 49) C dX8_back_48 rfl (pk_mul 30 q) ?_
          refine j_iload_n (pc' := 50) C dX8_back_49 rfl 2 rfl ?_
          refine j_iadd (v := (nI ((30 * q) + i))) (pc' := 51) C dX8_back_50 rfl (nI_add (30 * q) i) ?_
          refine j_nald (pc' := 52) C 3 rfl (by omega) (by decide) dX8_back_51 rfl ?_
          refine j_nast (pc' := 53) C [(a0, .inr (8, [.int (nI 0), .ref aX, .int ty, .int sp, .int tk, .int pl, .int va, .int fa, .ref aT, .ref aD, .ref aS, .ref aU, .int (nI n), .ref aK, .ref aI, .ref aL, .ref aE, .ref aF, .int sm, .ref aP, .ref aW, .int sn, .ref aB, .ref aM])), (aT, .inl (cyI, 42, .inl (nA t))), (aS, .inl (cyI, 30, .inl (nA (uN y i (kp ((30 * q) + i)))))), (aK, .inl (cyI, 60, .inl (nA kp))), (aI, .inl (cyZ, 2, .inl (bA ik)))] 2 rfl (by omega) (by decide) dX8_back_52 rfl rfl ?_
          refine j_iinc (v := (nI (i + 1))) (pc' := 56) C [(2, .int (nI (i + 1))), (0, .ref a0), (1, .int (nI q))] dX8_back_53 rfl 2 rfl (inc_n i 1) (by decide) rfl ?_
          refine j_goto C 30 dX8_back_56 (by decide) ?_
          refine j_lsub [(0, .ref a0), (1, .int (nI q)), (2, .int (nI (i + 1)))] [1, 2, 0] rfl ?_
          exact ih30 (i + 1) (uN y i (kp ((30 * q) + i))) (⟨by omega, by rw [hy, ← flN_s]; simp only [Nat.zero_add]⟩) (by omega)
      · exact ⟨Nat.zero_le _, (flN_0 _ _ _).symm⟩
    · refine j_bipush (v := (-2)) (pc' := 27) C dX8_back_25 rfl (by decide +kernel) ?_
      exact j_iret C hr hk hA dX8_back_27 (rfl) (⟨s, n, rfl, by unfold bkQ; rw [if_neg (by simp_all), nI_clamp (by omega), if_pos c22]⟩)
  · rw [in_R2 _ _ (by omega)] at c11
    refine j_iconst (v := (-1)) (pc' := 15) C dX8_back_14 rfl (by decide +kernel) ?_
    exact j_iret C hr hk hA dX8_back_15 (rfl) (⟨s, n, rfl, by unfold bkQ; rw [if_pos c11]⟩)

set_option maxHeartbeats 4000000 in
set_option maxRecDepth 100000 in
theorem c_X8_count {lch : Launch} {dG : va_G} {cyI cyZ cyO : ClassId} (a0 : Nat) (th : Int32) (aX : Nat) (sp : Int32) (tk : Int32) (pl : Int32) (va : Int32) (fa : Int32) (aT : Nat) (aD : Nat) (aS : Nat) (aU : Nat) (aK : Nat) (aI : Nat) (aL : Nat) (aE : Nat) (aF : Nat) (aP : Nat) (aW : Nat) (sn : Int32) (aB : Nat) (aM : Nat) (t : Nat → Nat) (s : Nat → Nat) (n : Nat) (tn : Nat) (un : Nat) (w : Int32) (hT : WT t) (hS : WS s) : Ki lch yX8_count cX8_count 5 .int (rmk 6) dG (cyI, cyZ, cyO) [.ref a0, .int w] [(a0, .inr (8, [.int th, .ref aX, .int (nI tn), .int sp, .int tk, .int pl, .int va, .int fa, .ref aT, .ref aD, .ref aS, .ref aU, .int (nI un), .ref aK, .ref aI, .ref aL, .ref aE, .ref aF, .int (nI n), .ref aP, .ref aW, .int sn, .ref aB, .ref aM])), (aT, .inl (cyI, 42, .inl (nA t))), (aS, .inl (cyI, 30, .inl (nA s)))] (fun r w1 => w1 = [(a0, .inr (8, [.int (nI 0), .ref aX, .int (nI tn), .int sp, .int tk, .int pl, .int va, .int fa, .ref aT, .ref aD, .ref aS, .ref aU, .int (nI un), .ref aK, .ref aI, .ref aL, .ref aE, .ref aF, .int (nI n), .ref aP, .ref aW, .int sn, .ref aB, .ref aM])), (aT, .inl (cyI, 42, .inl (nA t))), (aS, .inl (cyI, 30, .inl (nA s)))] ∧ r = (coQ t s n tn un w)) := by
  have h1 := hT.n
  refine Ki.of (own := RX8) rfl (by decide) (Nat.le_of_ble_eq_true rfl) (fun p0 e0 s0 m0 ar0 be0 me0 cd0 A0 C hr hk hnm hA => ?_)
  refine j_lsub [(0, .ref a0), (1, .int w)] [0, 1] rfl ?_
  refine j_aload_n (pc' := 1) C dX8_count_0 rfl 0 rfl ?_
  refine j_iconst (v := (nI 0)) (pc' := 2) C dX8_count_1 rfl (by decide +kernel) ?_
  refine j_put (pc' := 5) C [(a0, .inr (8, [.int (nI 0), .ref aX, .int (nI tn), .int sp, .int tk, .int pl, .int va, .int fa, .ref aT, .ref aD, .ref aS, .ref aU, .int (nI un), .ref aK, .ref aI, .ref aL, .ref aE, .ref aF, .int (nI n), .ref aP, .ref aW, .int sn, .ref aB, .ref aM])), (aT, .inl (cyI, 42, .inl (nA t))), (aS, .inl (cyI, 30, .inl (nA s)))] KX8 0 0 rfl (by decide) fl_X8_59 rfl rfl rfl rfl (Nat.le_of_ble_eq_true rfl) dX8_count_2 rfl rfl ?_
  refine j_iload_n (pc' := 6) C dX8_count_5 rfl 1 rfl ?_
  refine j_iconst (v := (nI 0)) (pc' := 7) C dX8_count_6 rfl (by decide +kernel) ?_
  refine j_bipush (v := (nI 7)) (pc' := 9) C dX8_count_7 rfl (by decide +kernel) ?_
  refine j_cSi (As := [.int w, .int (nI 0), .int (nI 7)]) (wr := [(a0, .inr (8, [.int (nI 0), .ref aX, .int (nI tn), .int sp, .int tk, .int pl, .int va, .int fa, .ref aT, .ref aD, .ref aS, .ref aU, .int (nI un), .ref aK, .ref aI, .ref aL, .ref aE, .ref aF, .int (nI n), .ref aP, .ref aW, .int sn, .ref aB, .ref aM])), (aT, .inl (cyI, 42, .inl (nA t))), (aS, .inl (cyI, 30, .inl (nA s)))]) (pc' := 12) C (c_X8_in (x := w) (a := (nI 0)) (b := (nI 7)) ) Y_X8_in (ml_X8_63) [] [0, 1, 2] rfl rfl rfl rfl (by decide) dX8_count_9 rfl rfl rfl (Nat.le_of_ble_eq_true rfl) ⟨Nat.le_of_ble_eq_true rfl, Nat.le_of_ble_eq_true rfl⟩ ⟨Nat.le_of_ble_eq_true rfl, Nat.le_of_ble_eq_true rfl⟩ ⟨rfl, rfl⟩ (fun r1 w1 hQ => ?_)
  obtain ⟨rfl, rfl⟩ := hQ
  refine j_perm [(a0, .inr (8, [.int (nI 0), .ref aX, .int (nI tn), .int sp, .int tk, .int pl, .int va, .int fa, .ref aT, .ref aD, .ref aS, .ref aU, .int (nI un), .ref aK, .ref aI, .ref aL, .ref aE, .ref aF, .int (nI n), .ref aP, .ref aW, .int sn, .ref aB, .ref aM])), (aT, .inl (cyI, 42, .inl (nA t))), (aS, .inl (cyI, 30, .inl (nA s)))] [0, 1, 2] rfl rfl (by decide) ?_
  refine j_b_ne (pc' := 15) C 17 dX8_count_12 (by decide) rfl (fun c12 => ?_) (fun c12 => ?_)
  · rw [in_R2 _ _ (by omega)] at c12
    obtain ⟨q, hq, rfl⟩ := inR_t c12 (by omega)
    refine j_iload_n (pc' := 18) C dX8_count_17 rfl 1 rfl ?_
    refine j_iconst (v := (nI 3)) (pc' := 19) C dX8_count_18 rfl (by decide +kernel) ?_
    refine j_nc_ge (pc' := 22) C 29 dX8_count_19 (by decide) rfl (by omega) (by omega) (fun c19 => ?_) (fun c19 => ?_)
    · refine j_iload_n (pc' := 30) C dX8_count_29 rfl 1 rfl ?_
      refine j_iconst (v := (nI 4)) (pc' := 31) C dX8_count_30 rfl (by decide +kernel) ?_
      refine j_nc_le (pc' := 34) C 64 dX8_count_31 (by decide) rfl (by omega) (by omega) (fun c31 => ?_) (fun c31 => ?_)
      · refine j_iconst (v := (nI 0)) (pc' := 65) C dX8_count_64 rfl (by decide +kernel) ?_
        refine j_istore_n (pc' := 66) C [(2, .int (nI 0)), (0, .ref a0), (1, .int (nI q))] dX8_count_65 rfl (by decide) rfl ?_
        refine j_iconst (v := (nI 0)) (pc' := 67) C dX8_count_66 rfl (by decide +kernel) ?_
        refine j_istore_n (pc' := 68) C [(3, .int (nI 0)), (2, .int (nI 0)), (0, .ref a0), (1, .int (nI q))] dX8_count_67 rfl (by decide) rfl ?_
        refine j_lsub [(0, .ref a0), (1, .int (nI q)), (2, .int (nI 0)), (3, .int (nI 0))] [2, 3, 1, 0] rfl ?_
        refine j_loop2 (fun (i : Nat) (z : Nat) => [(a0, .inr (8, [.int (nI 0), .ref aX, .int (nI tn), .int sp, .int tk, .int pl, .int va, .int fa, .ref aT, .ref aD, .ref aS, .ref aU, .int (nI un), .ref aK, .ref aI, .ref aL, .ref aE, .ref aF, .int (nI n), .ref aP, .ref aW, .int sn, .ref aB, .ref aM])), (aT, .inl (cyI, 42, .inl (nA t))), (aS, .inl (cyI, 30, .inl (nA s)))]) (fun (i : Nat) (z : Nat) => [(0, .ref a0), (1, .int (nI q)), (2, .int (nI z)), (3, .int (nI i))]) (fun (i : Nat) (z : Nat) => []) (fun (i : Nat) (z : Nat) => i ≤ t 2 ∧ z = (if q = 3 then cnB (fun l => decide (anN (fedN t s l) (s l) ≠ 0)) i else cnB (fun l => decide (anN (s l) (fedN t s l) ≠ 0)) i)) (fun (i : Nat) (z : Nat) => t 2 - i) ?_ 0 0 ?_
        · intro i z hI68 ih68
          obtain ⟨hi, hz⟩ := hI68
          refine j_iload_n (pc' := 69) C dX8_count_68 rfl 3 rfl ?_
          refine j_aload_n (pc' := 70) C dX8_count_69 rfl 0 rfl ?_
          refine j_get (v := .ref aT) (pc' := 73) C KX8 0 8 rfl (by decide) fl_X8_13 rfl rfl dX8_count_70 rfl ?_
          refine j_iconst (v := (nI 2)) (pc' := 74) C dX8_count_73 rfl (by decide +kernel) ?_
          refine j_nald (pc' := 75) C 1 rfl (by omega) (by decide) dX8_count_74 rfl ?_
          refine j_nc_ge (pc' := 78) C 136 dX8_count_75 (by decide) rfl (by omega) (by omega) (fun c75 => ?_) (fun c75 => ?_)
          · refine j_iload_n (pc' := 137) C dX8_count_136 rfl 2 rfl ?_
            exact j_iret C hr hk hA dX8_count_137 (rfl) (⟨rfl, by unfold coQ; rw [if_neg (by simp_all)]; simp only [nI_eq (show q < 2147483648 by omega) (show 3 < 2147483648 by decide), nI_eq (show q < 2147483648 by omega) (show 4 < 2147483648 by decide)]; rw [show i = t 2 by omega] at hz; exact (if h33 : q = 3 then (by rw [if_pos h33] at hz ⊢; rw [hz]) else (by rw [if_neg h33] at hz ⊢; rw [if_pos (by omega), hz]))⟩)
          · have hw := hS.1 i (by omega)
            refine j_aload_n (pc' := 79) C dX8_count_78 rfl 0 rfl ?_
            refine j_iload_n (pc' := 80) C dX8_count_79 rfl 3 rfl ?_
            refine j_cVi (As := [.int (nI i)]) (wr := []) (pc' := 83) C (c_X8_fedIn (a0 := a0) (th := (nI 0)) (aX := aX) (ty := (nI tn)) (sp := sp) (tk := tk) (pl := pl) (va := va) (fa := fa) (aT := aT) (aD := aD) (aS := aS) (aU := aU) (um := (nI un)) (aK := aK) (aI := aI) (aL := aL) (aE := aE) (aF := aF) (sm := (nI n)) (aP := aP) (aW := aW) (sn := sn) (aB := aB) (aM := aM) (t := t) (s := s) (l := i) (hT := by first | assumption | omega) (hS := by first | assumption | omega) (hl := by first | assumption | omega)) Y_X8_fedIn (ml_X8_121) [0, 1, 2] [] rfl rfl rfl rfl (by decide) rfl rfl rfl dX8_count_80 rfl rfl rfl (Nat.le_of_ble_eq_true rfl) ⟨Nat.le_of_ble_eq_true rfl, Nat.le_of_ble_eq_true rfl⟩ ⟨Nat.le_of_ble_eq_true rfl, Nat.le_of_ble_eq_true rfl⟩ ⟨rfl, rfl⟩ (fun r2 w1 hQ => ?_)
            obtain ⟨rfl, rfl⟩ := hQ
            refine j_istore (pc' := 85) C [(4, .int (nI (fedN t s i))), (0, .ref a0), (1, .int (nI q)), (2, .int (nI z)), (3, .int (nI i))] dX8_count_83 rfl (by decide) rfl ?_
            refine j_iload_n (pc' := 86) C dX8_count_85 rfl 3 rfl ?_
            refine j_iload_n (pc' := 87) C dX8_count_86 rfl 2 rfl ?_
            refine j_iconst (v := (nI 3)) (pc' := 88) C dX8_count_87 rfl (by decide +kernel) ?_
            refine j_nc_ne (pc' := 91) C 107 dX8_count_88 (by decide) rfl (by omega) (by omega) (fun c88 => ?_) (fun c88 => ?_)
            · refine j_aload_n (pc' := 108) C dX8_count_107 rfl 1 rfl ?_
              refine j_get (v := .ref aS) (pc' := 111) C KX8 0 10 rfl (by decide) fl_X8_19 rfl rfl dX8_count_108 rfl ?_
              refine j_iconst (v := (nI 0)) (pc' := 112) C dX8_count_111 rfl (by decide +kernel) ?_
              refine j_iload_n (pc' := 113) C dX8_count_112 rfl 4 rfl ?_
              refine j_iadd (v := (nI i)) (pc' := 114) C dX8_count_113 rfl (add_0I i) ?_
              refine j_nald (pc' := 115) C 2 rfl (by omega) (by decide) dX8_count_114 rfl ?_
              refine j_iload (pc' := 117) C dX8_count_115 rfl 0 rfl ?_
              refine j_iconst (v := (nI 4294967295)) (pc' := 118) C dX8_count_117 rfl (by decide +kernel) ?_
              refine j_ixor (v := (nI ((fedN t s i) ^^^ 4294967295))) (pc' := 119) C dX8_count_118 rfl (fb_xorI (fedN t s i) 4294967295) ?_
              refine j_iand (v := (nI ((s i) &&& ((fedN t s i) ^^^ 4294967295)))) (pc' := 120) C dX8_count_119 rfl (fa_and (s i) ((fedN t s i) ^^^ 4294967295)) ?_
              refine j_nz_eq (pc' := 123) C 127 dX8_count_120 (by decide) rfl (Nat.lt_of_le_of_lt Nat.and_le_left (by have := fedN_lt t s i; omega)) (fun c120 => ?_) (fun c120 => ?_)
              · refine j_iconst (v := (nI 0)) (pc' := 128) C dX8_count_127 rfl (by decide +kernel) ?_
                refine j_iadd (v := (nI (z + 0))) (pc' := 129) C dX8_count_128 rfl (nI_add z 0) ?_
                refine j_istore_n (pc' := 130) C [(2, .int (nI (z + 0))), (4, .int (nI (fedN t s i))), (0, .ref a0), (1, .int (nI q)), (3, .int (nI i))] dX8_count_129 rfl (by decide) rfl ?_
                refine j_iinc (v := (nI (i + 1))) (pc' := 133) C [(3, .int (nI (i + 1))), (2, .int (nI (z + 0))), (4, .int (nI (fedN t s i))), (0, .ref a0), (1, .int (nI q))] dX8_count_130 rfl 4 rfl (inc_n i 1) (by decide) rfl ?_
                refine j_goto C 68 dX8_count_133 (by decide) ?_
                refine j_lsub [(0, .ref a0), (1, .int (nI q)), (2, .int (nI (z + 0))), (3, .int (nI (i + 1)))] [3, 4, 1, 0] rfl ?_
                exact ih68 (i + 1) (z + 0) (⟨by omega, by first | (rw [if_pos (by assumption)] at hz ⊢; rw [cnB, ← hz]; unfold anN; simp_all) | (rw [if_neg (by assumption)] at hz ⊢; rw [cnB, ← hz]; unfold anN; simp_all)⟩) (by omega)
              · refine j_iconst (v := (nI 1)) (pc' := 124) C dX8_count_123 rfl (by decide +kernel) ?_
                refine j_goto C 128 dX8_count_124 (by decide) ?_
                refine j_iadd (v := (nI (z + 1))) (pc' := 129) C dX8_count_128 rfl (nI_add z 1) ?_
                refine j_istore_n (pc' := 130) C [(2, .int (nI (z + 1))), (4, .int (nI (fedN t s i))), (0, .ref a0), (1, .int (nI q)), (3, .int (nI i))] dX8_count_129 rfl (by decide) rfl ?_
                refine j_iinc (v := (nI (i + 1))) (pc' := 133) C [(3, .int (nI (i + 1))), (2, .int (nI (z + 1))), (4, .int (nI (fedN t s i))), (0, .ref a0), (1, .int (nI q))] dX8_count_130 rfl 4 rfl (inc_n i 1) (by decide) rfl ?_
                refine j_goto C 68 dX8_count_133 (by decide) ?_
                refine j_lsub [(0, .ref a0), (1, .int (nI q)), (2, .int (nI (z + 1))), (3, .int (nI (i + 1)))] [3, 4, 1, 0] rfl ?_
                exact ih68 (i + 1) (z + 1) (⟨by omega, by first | (rw [if_pos (by assumption)] at hz ⊢; rw [cnB, ← hz]; unfold anN; simp_all) | (rw [if_neg (by assumption)] at hz ⊢; rw [cnB, ← hz]; unfold anN; simp_all)⟩) (by omega)
            · refine j_iload (pc' := 93) C dX8_count_91 rfl 0 rfl ?_
              refine j_aload_n (pc' := 94) C dX8_count_93 rfl 1 rfl ?_
              refine j_get (v := .ref aS) (pc' := 97) C KX8 0 10 rfl (by decide) fl_X8_19 rfl rfl dX8_count_94 rfl ?_
              refine j_iconst (v := (nI 0)) (pc' := 98) C dX8_count_97 rfl (by decide +kernel) ?_
              refine j_iload_n (pc' := 99) C dX8_count_98 rfl 4 rfl ?_
              refine j_iadd (v := (nI i)) (pc' := 100) C dX8_count_99 rfl (add_0I i) ?_
              refine j_nald (pc' := 101) C 2 rfl (by omega) (by decide) dX8_count_100 rfl ?_
              refine j_iconst (v := (nI 4294967295)) (pc' := 102) C dX8_count_101 rfl (by decide +kernel) ?_
              refine j_ixor (v := (nI ((s i) ^^^ 4294967295))) (pc' := 103) C dX8_count_102 rfl (fb_xorI (s i) 4294967295) ?_
              refine j_iand (v := (nI ((fedN t s i) &&& ((s i) ^^^ 4294967295)))) (pc' := 104) C dX8_count_103 rfl (fa_and (fedN t s i) ((s i) ^^^ 4294967295)) ?_
              refine j_goto C 120 dX8_count_104 (by decide) ?_
              refine j_nz_eq (pc' := 123) C 127 dX8_count_120 (by decide) rfl (Nat.lt_of_le_of_lt Nat.and_le_left (by have := fedN_lt t s i; omega)) (fun c120 => ?_) (fun c120 => ?_)
              · refine j_iconst (v := (nI 0)) (pc' := 128) C dX8_count_127 rfl (by decide +kernel) ?_
                refine j_iadd (v := (nI (z + 0))) (pc' := 129) C dX8_count_128 rfl (nI_add z 0) ?_
                refine j_istore_n (pc' := 130) C [(2, .int (nI (z + 0))), (4, .int (nI (fedN t s i))), (0, .ref a0), (1, .int (nI q)), (3, .int (nI i))] dX8_count_129 rfl (by decide) rfl ?_
                refine j_iinc (v := (nI (i + 1))) (pc' := 133) C [(3, .int (nI (i + 1))), (2, .int (nI (z + 0))), (4, .int (nI (fedN t s i))), (0, .ref a0), (1, .int (nI q))] dX8_count_130 rfl 4 rfl (inc_n i 1) (by decide) rfl ?_
                refine j_goto C 68 dX8_count_133 (by decide) ?_
                refine j_lsub [(0, .ref a0), (1, .int (nI q)), (2, .int (nI (z + 0))), (3, .int (nI (i + 1)))] [3, 4, 1, 0] rfl ?_
                exact ih68 (i + 1) (z + 0) (⟨by omega, by first | (rw [if_pos (by assumption)] at hz ⊢; rw [cnB, ← hz]; unfold anN; simp_all) | (rw [if_neg (by assumption)] at hz ⊢; rw [cnB, ← hz]; unfold anN; simp_all)⟩) (by omega)
              · refine j_iconst (v := (nI 1)) (pc' := 124) C dX8_count_123 rfl (by decide +kernel) ?_
                refine j_goto C 128 dX8_count_124 (by decide) ?_
                refine j_iadd (v := (nI (z + 1))) (pc' := 129) C dX8_count_128 rfl (nI_add z 1) ?_
                refine j_istore_n (pc' := 130) C [(2, .int (nI (z + 1))), (4, .int (nI (fedN t s i))), (0, .ref a0), (1, .int (nI q)), (3, .int (nI i))] dX8_count_129 rfl (by decide) rfl ?_
                refine j_iinc (v := (nI (i + 1))) (pc' := 133) C [(3, .int (nI (i + 1))), (2, .int (nI (z + 1))), (4, .int (nI (fedN t s i))), (0, .ref a0), (1, .int (nI q))] dX8_count_130 rfl 4 rfl (inc_n i 1) (by decide) rfl ?_
                refine j_goto C 68 dX8_count_133 (by decide) ?_
                refine j_lsub [(0, .ref a0), (1, .int (nI q)), (2, .int (nI (z + 1))), (3, .int (nI (i + 1)))] [3, 4, 1, 0] rfl ?_
                exact ih68 (i + 1) (z + 1) (⟨by omega, by first | (rw [if_pos (by assumption)] at hz ⊢; rw [cnB, ← hz]; unfold anN; simp_all) | (rw [if_neg (by assumption)] at hz ⊢; rw [cnB, ← hz]; unfold anN; simp_all)⟩) (by omega)
        · exact ⟨Nat.zero_le _, by split <;> rfl⟩
      · refine j_iload_n (pc' := 35) C dX8_count_34 rfl 1 rfl ?_
        refine j_iconst (v := (nI 5)) (pc' := 36) C dX8_count_35 rfl (by decide +kernel) ?_
        refine j_nc_ne (pc' := 39) C 46 dX8_count_36 (by decide) rfl (by omega) (by omega) (fun c36 => ?_) (fun c36 => ?_)
        · refine j_iload_n (pc' := 47) C dX8_count_46 rfl 1 rfl ?_
          refine j_bipush (v := (nI 6)) (pc' := 49) C dX8_count_47 rfl (by decide +kernel) ?_
          refine j_nc_ne (pc' := 52) C 59 dX8_count_49 (by decide) rfl (by omega) (by omega) (fun c49 => ?_) (fun c49 => ?_)
          · refine j_aload_n (pc' := 60) C dX8_count_59 rfl 0 rfl ?_
            refine j_get (v := .int (nI un)) (pc' := 63) C KX8 0 12 rfl (by decide) fl_X8_127 rfl rfl dX8_count_60 rfl ?_
            exact j_iret C hr hk hA dX8_count_63 (rfl) (⟨rfl, by unfold coQ; rw [if_neg (by simp_all)]; simp only [nI_eq (show q < 2147483648 by omega) (show 3 < 2147483648 by decide), nI_eq (show q < 2147483648 by omega) (show 4 < 2147483648 by decide), nI_eq (show q < 2147483648 by omega) (show 5 < 2147483648 by decide), nI_eq (show q < 2147483648 by omega) (show 6 < 2147483648 by decide), nI_eq (show q < 2147483648 by omega) (show 7 < 2147483648 by decide)]; repeat (first | rw [if_neg (by omega)] | rw [if_pos (by omega)])⟩)
          · refine j_aload_n (pc' := 53) C dX8_count_52 rfl 0 rfl ?_
            refine j_get (v := .int (nI tn)) (pc' := 56) C KX8 0 2 rfl (by decide) fl_X8_67 rfl rfl dX8_count_53 rfl ?_
            refine j_goto C 63 dX8_count_56 (by decide) ?_
            exact j_iret C hr hk hA dX8_count_63 (rfl) (⟨rfl, by unfold coQ; rw [if_neg (by simp_all)]; simp only [nI_eq (show q < 2147483648 by omega) (show 3 < 2147483648 by decide), nI_eq (show q < 2147483648 by omega) (show 4 < 2147483648 by decide), nI_eq (show q < 2147483648 by omega) (show 5 < 2147483648 by decide), nI_eq (show q < 2147483648 by omega) (show 6 < 2147483648 by decide), nI_eq (show q < 2147483648 by omega) (show 7 < 2147483648 by decide)]; repeat (first | rw [if_neg (by omega)] | rw [if_pos (by omega)])⟩)
        · refine j_aload_n (pc' := 40) C dX8_count_39 rfl 0 rfl ?_
          refine j_get (v := .int (nI n)) (pc' := 43) C KX8 0 18 rfl (by decide) fl_X8_124 rfl rfl dX8_count_40 rfl ?_
          refine j_goto C 63 dX8_count_43 (by decide) ?_
          exact j_iret C hr hk hA dX8_count_63 (rfl) (⟨rfl, by unfold coQ; rw [if_neg (by simp_all)]; simp only [nI_eq (show q < 2147483648 by omega) (show 3 < 2147483648 by decide), nI_eq (show q < 2147483648 by omega) (show 4 < 2147483648 by decide), nI_eq (show q < 2147483648 by omega) (show 5 < 2147483648 by decide), nI_eq (show q < 2147483648 by omega) (show 6 < 2147483648 by decide), nI_eq (show q < 2147483648 by omega) (show 7 < 2147483648 by decide)]; repeat (first | rw [if_neg (by omega)] | rw [if_pos (by omega)])⟩)
    · refine j_aload_n (pc' := 23) C dX8_count_22 rfl 0 rfl ?_
      refine j_get (v := .ref aT) (pc' := 26) C KX8 0 8 rfl (by decide) fl_X8_13 rfl rfl dX8_count_23 rfl ?_
      refine j_iload_n (pc' := 27) C dX8_count_26 rfl 1 rfl ?_
      refine j_nald (pc' := 28) C 1 rfl (by omega) (by decide) dX8_count_27 rfl ?_
      exact j_iret C hr hk hA dX8_count_28 (rfl) (⟨rfl, by unfold coQ; rw [if_neg (by simp_all), nI_clamp (by omega)]; simp only [nI_eq (show q < 2147483648 by omega) (show 3 < 2147483648 by decide), nI_eq (show q < 2147483648 by omega) (show 4 < 2147483648 by decide), nI_eq (show q < 2147483648 by omega) (show 5 < 2147483648 by decide), nI_eq (show q < 2147483648 by omega) (show 6 < 2147483648 by decide), nI_eq (show q < 2147483648 by omega) (show 7 < 2147483648 by decide)]; repeat (first | rw [if_neg (by omega)] | rw [if_pos (by omega)])⟩)
  · rw [in_R2 _ _ (by omega)] at c12
    refine j_iconst (v := (-1)) (pc' := 16) C dX8_count_15 rfl (by decide +kernel) ?_
    exact j_iret C hr hk hA dX8_count_16 (rfl) (⟨rfl, by unfold coQ; rw [if_pos c12]⟩)

set_option maxHeartbeats 4000000 in
set_option maxRecDepth 100000 in
theorem c_X8_odds {lch : Launch} {dG : va_G} {cyI cyZ cyO : ClassId} (a0 : Nat) (th : Int32) (aX : Nat) (ty : Int32) (sp : Int32) (tk : Int32) (pl : Int32) (va : Int32) (fa : Int32) (aT : Nat) (aD : Nat) (aS : Nat) (aU : Nat) (um : Int32) (aK : Nat) (aI : Nat) (aL : Nat) (aE : Nat) (aF : Nat) (sm : Int32) (aP : Nat) (aW : Nat) (sn : Int32) (aB : Nat) (aM : Nat) (t : Nat → Nat) (s : Nat → Nat) (x : Int32) (l : Int32) (v : Int32) (w : Int32) (hT : WT t) (hS : WS s) : Ki lch yX8_odds cX8_odds 13 .int (rmk 5) dG (cyI, cyZ, cyO) [.ref a0, .int x, .int l, .int v, .int w] [(a0, .inr (8, [.int th, .ref aX, .int ty, .int sp, .int tk, .int pl, .int va, .int fa, .ref aT, .ref aD, .ref aS, .ref aU, .int um, .ref aK, .ref aI, .ref aL, .ref aE, .ref aF, .int sm, .ref aP, .ref aW, .int sn, .ref aB, .ref aM])), (aT, .inl (cyI, 42, .inl (nA t))), (aS, .inl (cyI, 30, .inl (nA s)))] (fun r w1 => w1 = [(a0, .inr (8, [.int (nI 0), .ref aX, .int ty, .int sp, .int tk, .int pl, .int va, .int fa, .ref aT, .ref aD, .ref aS, .ref aU, .int um, .ref aK, .ref aI, .ref aL, .ref aE, .ref aF, .int sm, .ref aP, .ref aW, .int sn, .ref aB, .ref aM])), (aT, .inl (cyI, 42, .inl (nA t))), (aS, .inl (cyI, 30, .inl (nA s)))] ∧ r = (odQ t s x l v w)) := by
  have h1 := hT.n
  have h9 := p2_9 (n := t 1) (by omega)
  have h8 := Nat.two_pow_pos (t 1)
  have h10 := p10_9 (n := t 1) (by omega)
  have h11 : 0 < 10 ^ t 1 := Nat.pow_pos (by decide)
  refine Ki.of (own := RX8) rfl (by decide) (Nat.le_of_ble_eq_true rfl) (fun p0 e0 s0 m0 ar0 be0 me0 cd0 A0 C hr hk hnm hA => ?_)
  refine j_lsub [(0, .ref a0), (1, .int x), (2, .int l), (3, .int v), (4, .int w)] [0, 1, 2, 3, 4] rfl ?_
  refine j_aload_n (pc' := 1) C dX8_odds_0 rfl 0 rfl ?_
  refine j_iconst (v := (nI 0)) (pc' := 2) C dX8_odds_1 rfl (by decide +kernel) ?_
  refine j_put (pc' := 5) C [(a0, .inr (8, [.int (nI 0), .ref aX, .int ty, .int sp, .int tk, .int pl, .int va, .int fa, .ref aT, .ref aD, .ref aS, .ref aU, .int um, .ref aK, .ref aI, .ref aL, .ref aE, .ref aF, .int sm, .ref aP, .ref aW, .int sn, .ref aB, .ref aM])), (aT, .inl (cyI, 42, .inl (nA t))), (aS, .inl (cyI, 30, .inl (nA s)))] KX8 0 0 rfl (by decide) fl_X8_59 rfl rfl rfl rfl (Nat.le_of_ble_eq_true rfl) dX8_odds_2 rfl rfl ?_
  refine j_iload_n (pc' := 6) C dX8_odds_5 rfl 1 rfl ?_
  refine j_iconst (v := (nI 0)) (pc' := 7) C dX8_odds_6 rfl (by decide +kernel) ?_
  refine j_bipush (v := (nI 10)) (pc' := 9) C dX8_odds_7 rfl (by decide +kernel) ?_
  refine j_cSi (As := [.int x, .int (nI 0), .int (nI 10)]) (wr := [(a0, .inr (8, [.int (nI 0), .ref aX, .int ty, .int sp, .int tk, .int pl, .int va, .int fa, .ref aT, .ref aD, .ref aS, .ref aU, .int um, .ref aK, .ref aI, .ref aL, .ref aE, .ref aF, .int sm, .ref aP, .ref aW, .int sn, .ref aB, .ref aM])), (aT, .inl (cyI, 42, .inl (nA t))), (aS, .inl (cyI, 30, .inl (nA s)))]) (pc' := 12) C (c_X8_in (x := x) (a := (nI 0)) (b := (nI 10)) ) Y_X8_in (ml_X8_63) [] [0, 1, 2] rfl rfl rfl rfl (by decide) dX8_odds_9 rfl rfl rfl (Nat.le_of_ble_eq_true rfl) ⟨Nat.le_of_ble_eq_true rfl, Nat.le_of_ble_eq_true rfl⟩ ⟨Nat.le_of_ble_eq_true rfl, Nat.le_of_ble_eq_true rfl⟩ ⟨rfl, rfl⟩ (fun r1 w1 hQ => ?_)
  obtain ⟨rfl, rfl⟩ := hQ
  refine j_perm [(a0, .inr (8, [.int (nI 0), .ref aX, .int ty, .int sp, .int tk, .int pl, .int va, .int fa, .ref aT, .ref aD, .ref aS, .ref aU, .int um, .ref aK, .ref aI, .ref aL, .ref aE, .ref aF, .int sm, .ref aP, .ref aW, .int sn, .ref aB, .ref aM])), (aT, .inl (cyI, 42, .inl (nA t))), (aS, .inl (cyI, 30, .inl (nA s)))] [0, 1, 2] rfl rfl (by decide) ?_
  refine j_b_eq (pc' := 15) C 40 dX8_odds_12 (by decide) rfl (fun c12 => ?_) (fun c12 => ?_)
  · rw [in_R2 _ _ (by omega)] at c12
    refine j_iconst (v := (-1)) (pc' := 41) C dX8_odds_40 rfl (by decide +kernel) ?_
    exact j_iret C hr hk hA dX8_odds_41 (rfl) (⟨rfl, by unfold odQ; rw [if_pos (by simp_all)]⟩)
  · rw [in_R2 _ _ (by omega)] at c12
    obtain ⟨y, hy, rfl⟩ := inR_t c12 (by omega)
    refine j_aload_n (pc' := 16) C dX8_odds_15 rfl 0 rfl ?_
    refine j_iload_n (pc' := 17) C dX8_odds_16 rfl 2 rfl ?_
    refine j_cVi (As := [.int l]) (wr := [(aS, .inl (cyI, 30, .inl (nA s)))]) (pc' := 20) C (c_X8_isLoad (a0 := a0) (th := (nI 0)) (aX := aX) (ty := ty) (sp := sp) (tk := tk) (pl := pl) (va := va) (fa := fa) (aT := aT) (aD := aD) (aS := aS) (aU := aU) (um := um) (aK := aK) (aI := aI) (aL := aL) (aE := aE) (aF := aF) (sm := sm) (aP := aP) (aW := aW) (sn := sn) (aB := aB) (aM := aM) (t := t) (v := l) (hT := by first | assumption | omega)) Y_X8_isLoad (ml_X8_150) [0, 1] [2] rfl rfl rfl rfl (by decide) rfl rfl rfl dX8_odds_17 rfl rfl rfl (Nat.le_of_ble_eq_true rfl) ⟨Nat.le_of_ble_eq_true rfl, Nat.le_of_ble_eq_true rfl⟩ ⟨Nat.le_of_ble_eq_true rfl, Nat.le_of_ble_eq_true rfl⟩ ⟨rfl, rfl⟩ (fun r2 w1 hQ => ?_)
    obtain ⟨rfl, rfl⟩ := hQ
    refine j_perm [(a0, .inr (8, [.int (nI 0), .ref aX, .int ty, .int sp, .int tk, .int pl, .int va, .int fa, .ref aT, .ref aD, .ref aS, .ref aU, .int um, .ref aK, .ref aI, .ref aL, .ref aE, .ref aF, .int sm, .ref aP, .ref aW, .int sn, .ref aB, .ref aM])), (aT, .inl (cyI, 42, .inl (nA t))), (aS, .inl (cyI, 30, .inl (nA s)))] [1, 2, 0] rfl rfl (by decide) ?_
    refine j_b_eq (pc' := 23) C 40 dX8_odds_20 (by decide) rfl (fun c20 => ?_) (fun c20 => ?_)
    · refine j_iconst (v := (-1)) (pc' := 41) C dX8_odds_40 rfl (by decide +kernel) ?_
      exact j_iret C hr hk hA dX8_odds_41 (rfl) (⟨rfl, by unfold odQ; rw [if_pos (by simp_all)]⟩)
    · obtain ⟨j, hj, rfl⟩ := inR_t c20 (by omega)
      refine j_iload_n (pc' := 24) C dX8_odds_23 rfl 3 rfl ?_
      refine j_cSi (As := [.int v]) (wr := [(a0, .inr (8, [.int (nI 0), .ref aX, .int ty, .int sp, .int tk, .int pl, .int va, .int fa, .ref aT, .ref aD, .ref aS, .ref aU, .int um, .ref aK, .ref aI, .ref aL, .ref aE, .ref aF, .int sm, .ref aP, .ref aW, .int sn, .ref aB, .ref aM])), (aT, .inl (cyI, 42, .inl (nA t))), (aS, .inl (cyI, 30, .inl (nA s)))]) (pc' := 27) C (c_X8_isState (v := v) ) Y_X8_isState (ml_X8_179) [] [0, 1, 2] rfl rfl rfl rfl (by decide) dX8_odds_24 rfl rfl rfl (Nat.le_of_ble_eq_true rfl) ⟨Nat.le_of_ble_eq_true rfl, Nat.le_of_ble_eq_true rfl⟩ ⟨Nat.le_of_ble_eq_true rfl, Nat.le_of_ble_eq_true rfl⟩ ⟨rfl, rfl⟩ (fun r3 w1 hQ => ?_)
      obtain ⟨rfl, rfl⟩ := hQ
      refine j_perm [(a0, .inr (8, [.int (nI 0), .ref aX, .int ty, .int sp, .int tk, .int pl, .int va, .int fa, .ref aT, .ref aD, .ref aS, .ref aU, .int um, .ref aK, .ref aI, .ref aL, .ref aE, .ref aF, .int sm, .ref aP, .ref aW, .int sn, .ref aB, .ref aM])), (aT, .inl (cyI, 42, .inl (nA t))), (aS, .inl (cyI, 30, .inl (nA s)))] [0, 1, 2] rfl rfl (by decide) ?_
      refine j_b_eq (pc' := 30) C 40 dX8_odds_27 (by decide) rfl (fun c27 => ?_) (fun c27 => ?_)
      · refine j_iconst (v := (-1)) (pc' := 41) C dX8_odds_40 rfl (by decide +kernel) ?_
        exact j_iret C hr hk hA dX8_odds_41 (rfl) (⟨rfl, by unfold odQ; rw [if_pos (by simp_all)]⟩)
      · obtain ⟨q, hq, rfl⟩ := inR_t c27 (by omega)
        refine j_iload (pc' := 32) C dX8_odds_30 rfl 4 rfl ?_
        refine j_iconst (v := (nI 0)) (pc' := 33) C dX8_odds_32 rfl (by decide +kernel) ?_
        refine j_iconst (v := (nI 1)) (pc' := 34) C dX8_odds_33 rfl (by decide +kernel) ?_
        refine j_cSi (As := [.int w, .int (nI 0), .int (nI 1)]) (wr := [(a0, .inr (8, [.int (nI 0), .ref aX, .int ty, .int sp, .int tk, .int pl, .int va, .int fa, .ref aT, .ref aD, .ref aS, .ref aU, .int um, .ref aK, .ref aI, .ref aL, .ref aE, .ref aF, .int sm, .ref aP, .ref aW, .int sn, .ref aB, .ref aM])), (aT, .inl (cyI, 42, .inl (nA t))), (aS, .inl (cyI, 30, .inl (nA s)))]) (pc' := 37) C (c_X8_in (x := w) (a := (nI 0)) (b := (nI 1)) ) Y_X8_in (ml_X8_63) [] [0, 1, 2] rfl rfl rfl rfl (by decide) dX8_odds_34 rfl rfl rfl (Nat.le_of_ble_eq_true rfl) ⟨Nat.le_of_ble_eq_true rfl, Nat.le_of_ble_eq_true rfl⟩ ⟨Nat.le_of_ble_eq_true rfl, Nat.le_of_ble_eq_true rfl⟩ ⟨rfl, rfl⟩ (fun r4 w1 hQ => ?_)
        obtain ⟨rfl, rfl⟩ := hQ
        refine j_perm [(a0, .inr (8, [.int (nI 0), .ref aX, .int ty, .int sp, .int tk, .int pl, .int va, .int fa, .ref aT, .ref aD, .ref aS, .ref aU, .int um, .ref aK, .ref aI, .ref aL, .ref aE, .ref aF, .int sm, .ref aP, .ref aW, .int sn, .ref aB, .ref aM])), (aT, .inl (cyI, 42, .inl (nA t))), (aS, .inl (cyI, 30, .inl (nA s)))] [0, 1, 2] rfl rfl (by decide) ?_
        refine j_b_ne (pc' := 40) C 42 dX8_odds_37 (by decide) rfl (fun c37 => ?_) (fun c37 => ?_)
        · rw [in_R2 _ _ (by omega)] at c37
          obtain ⟨z, hz, rfl⟩ := inR_t c37 (by omega)
          refine j_lconst (v := (lN 0)) (pc' := 43) C dX8_odds_42 rfl (by decide +kernel) ?_
          refine j_lstore (pc' := 45) C [(5, .long (lN 0)), (0, .ref a0), (1, .int (nI y)), (2, .int (nI j)), (3, .int (nI q)), (4, .int (nI z))] dX8_odds_43 rfl (by decide) rfl ?_
          refine j_lconst (v := (lN 1)) (pc' := 46) C dX8_odds_45 rfl (by decide +kernel) ?_
          refine j_lstore (pc' := 48) C [(7, .long (lN 1)), (5, .long (lN 0)), (0, .ref a0), (1, .int (nI y)), (2, .int (nI j)), (3, .int (nI q)), (4, .int (nI z))] dX8_odds_46 rfl (by decide) rfl ?_
          refine j_iconst (v := (nI 0)) (pc' := 49) C dX8_odds_48 rfl (by decide +kernel) ?_
          refine j_istore (pc' := 51) C [(9, .int (nI 0)), (7, .long (lN 1)), (5, .long (lN 0)), (0, .ref a0), (1, .int (nI y)), (2, .int (nI j)), (3, .int (nI q)), (4, .int (nI z))] dX8_odds_49 rfl (by decide) rfl ?_
          refine j_lsub [(0, .ref a0), (1, .int (nI y)), (2, .int (nI j)), (3, .int (nI q)), (4, .int (nI z)), (5, .long (lN 0)), (7, .long (lN 1)), (9, .int (nI 0))] [3, 4, 5, 6, 7, 2, 1, 0] rfl ?_
          refine j_loop3 (fun (i : Nat) (up : Nat) (wh : Nat) => [(a0, .inr (8, [.int (nI 0), .ref aX, .int ty, .int sp, .int tk, .int pl, .int va, .int fa, .ref aT, .ref aD, .ref aS, .ref aU, .int um, .ref aK, .ref aI, .ref aL, .ref aE, .ref aF, .int sm, .ref aP, .ref aW, .int sn, .ref aB, .ref aM])), (aT, .inl (cyI, 42, .inl (nA t))), (aS, .inl (cyI, 30, .inl (nA s)))]) (fun (i : Nat) (up : Nat) (wh : Nat) => [(0, .ref a0), (1, .int (nI y)), (2, .int (nI j)), (3, .int (nI q)), (4, .int (nI z)), (5, .long (lN up)), (7, .long (lN wh)), (9, .int (nI i))]) (fun (i : Nat) (up : Nat) (wh : Nat) => []) (fun (i : Nat) (up : Nat) (wh : Nat) => i ≤ 2 ^ t 1 ∧ up = upN t s y j q i ∧ (i = 0 ∨ wh = 10 ^ t 1)) (fun (i : Nat) (up : Nat) (wh : Nat) => 2 ^ t 1 - i) ?_ 0 0 1 ?_
          · intro i up wh hI51 ih51
            obtain ⟨hi, hu, hwh⟩ := hI51
            refine j_iload (pc' := 53) C dX8_odds_51 rfl 7 rfl ?_
            refine j_iconst (v := (nI 1)) (pc' := 54) C dX8_odds_53 rfl (by decide +kernel) ?_
            refine j_aload_n (pc' := 55) C dX8_odds_54 rfl 0 rfl ?_
            refine j_get (v := .ref aT) (pc' := 58) C KX8 0 8 rfl (by decide) fl_X8_13 rfl rfl dX8_odds_55 rfl ?_
            refine j_iconst (v := (nI 1)) (pc' := 59) C dX8_odds_58 rfl (by decide +kernel) ?_
            refine j_nald (pc' := 60) C 1 rfl (by omega) (by decide) dX8_odds_59 rfl ?_
            refine j_ishl (v := (nI (2 ^ (t 1)))) (pc' := 61) C dX8_odds_60 rfl (sh_1 (by omega)) ?_
            refine j_nc_ge (pc' := 64) C 158 dX8_odds_61 (by decide) rfl (by omega) (by omega) (fun c61 => ?_) (fun c61 => ?_)
            · have hi2 : i = 2 ^ t 1 := by omega
              have hw2 : wh = 10 ^ t 1 := by omega
              have hup := Nat.le_trans (upN_le t s (x := y) (by omega) j q i) (Nat.mul_le_mul (show i ≤ 512 by omega) h10)
              have hgp : 0 < Nat.gcd up wh := Nat.gcd_pos_of_pos_right _ (by omega)
              have hgl : Nat.gcd up wh ≤ wh := Nat.gcd_le_right _ (by omega)
              refine j_lload (pc' := 160) C dX8_odds_158 rfl 5 rfl ?_
              refine j_lload (pc' := 162) C dX8_odds_160 rfl 6 rfl ?_
              refine j_cSl (As := [.long (lN up), .long (lN wh)]) (wr := [(a0, .inr (8, [.int (nI 0), .ref aX, .int ty, .int sp, .int tk, .int pl, .int va, .int fa, .ref aT, .ref aD, .ref aS, .ref aU, .int um, .ref aK, .ref aI, .ref aL, .ref aE, .ref aF, .int sm, .ref aP, .ref aW, .int sn, .ref aB, .ref aM])), (aT, .inl (cyI, 42, .inl (nA t))), (aS, .inl (cyI, 30, .inl (nA s)))]) (pc' := 165) C (c_X8_gcd (a := up) (b := wh) (ha := by omega) (hb := by omega)) Y_X8_gcd (ml_X8_191) [] [0, 1, 2] rfl rfl rfl rfl (by decide) dX8_odds_162 rfl rfl rfl (Nat.le_of_ble_eq_true rfl) ⟨Nat.le_of_ble_eq_true rfl, Nat.le_of_ble_eq_true rfl⟩ ⟨Nat.le_of_ble_eq_true rfl, Nat.le_of_ble_eq_true rfl⟩ ⟨rfl, rfl⟩ (fun r5 w1 hQ => ?_)
              obtain ⟨rfl, rfl⟩ := hQ
              refine j_perm [(a0, .inr (8, [.int (nI 0), .ref aX, .int ty, .int sp, .int tk, .int pl, .int va, .int fa, .ref aT, .ref aD, .ref aS, .ref aU, .int um, .ref aK, .ref aI, .ref aL, .ref aE, .ref aF, .int sm, .ref aP, .ref aW, .int sn, .ref aB, .ref aM])), (aT, .inl (cyI, 42, .inl (nA t))), (aS, .inl (cyI, 30, .inl (nA s)))] [0, 1, 2] rfl rfl (by decide) ?_
              refine j_lstore (pc' := 167) C [(9, .long (lN (Nat.gcd up wh))), (0, .ref a0), (1, .int (nI y)), (2, .int (nI j)), (3, .int (nI q)), (4, .int (nI z)), (5, .long (lN up)), (7, .long (lN wh))] dX8_odds_165 rfl (by decide) rfl ?_
              refine j_iload (pc' := 169) C dX8_odds_167 rfl 5 rfl ?_
              refine j_nz_ne (pc' := 172) C 180 dX8_odds_169 (by decide) rfl (by omega) (fun c169 => ?_) (fun c169 => ?_)
              · refine j_lload (pc' := 182) C dX8_odds_180 rfl 7 rfl ?_
                refine j_lload (pc' := 184) C dX8_odds_182 rfl 0 rfl ?_
                refine j_ldiv (v := (lN (wh / (Nat.gcd up wh)))) (pc' := 185) C dX8_odds_184 rfl (lN_ne0 hgp (by omega)) (pk_lDiv (by omega) hgp (by omega)) ?_
                refine j_l2i (v := (nI (wh / (Nat.gcd up wh)))) (pc' := 186) C dX8_odds_185 rfl (lN_i (wh / (Nat.gcd up wh))) ?_
                exact j_iret C hr hk hA dX8_odds_186 (rfl) (⟨rfl, by unfold odQ; rw [if_neg (by simp_all), nI_clamp (n := y) (by omega), nI_clamp (n := j) (by omega), nI_clamp (n := q) (by omega), ← hi2, ← hu, ← hw2]; first | rw [if_pos (by rw [c169])] | rw [if_neg (by intro q9; exact c169 ((nI_eq (by omega) (by omega)).mp q9))]⟩)
              · refine j_lload (pc' := 174) C dX8_odds_172 rfl 6 rfl ?_
                refine j_lload (pc' := 176) C dX8_odds_174 rfl 0 rfl ?_
                refine j_ldiv (v := (lN (up / (Nat.gcd up wh)))) (pc' := 177) C dX8_odds_176 rfl (lN_ne0 hgp (by omega)) (pk_lDiv (by omega) hgp (by omega)) ?_
                refine j_goto C 185 dX8_odds_177 (by decide) ?_
                refine j_l2i (v := (nI (up / (Nat.gcd up wh)))) (pc' := 186) C dX8_odds_185 rfl (lN_i (up / (Nat.gcd up wh))) ?_
                exact j_iret C hr hk hA dX8_odds_186 (rfl) (⟨rfl, by unfold odQ; rw [if_neg (by simp_all), nI_clamp (n := y) (by omega), nI_clamp (n := j) (by omega), nI_clamp (n := q) (by omega), ← hi2, ← hu, ← hw2]; first | rw [if_pos (by rw [c169])] | rw [if_neg (by intro q9; exact c169 ((nI_eq (by omega) (by omega)).mp q9))]⟩)
            · have hup := Nat.le_trans (upN_le t s (x := y) (by omega) j q i) (Nat.mul_le_mul (show i ≤ 512 by omega) h10)
              refine j_lconst (v := (lN 1)) (pc' := 65) C dX8_odds_64 rfl (by decide +kernel) ?_
              refine j_lstore (pc' := 67) C [(10, .long (lN 1)), (0, .ref a0), (1, .int (nI y)), (2, .int (nI j)), (3, .int (nI q)), (4, .int (nI z)), (5, .long (lN up)), (7, .long (lN wh)), (9, .int (nI i))] dX8_odds_65 rfl (by decide) rfl ?_
              refine j_lconst (v := (lN 1)) (pc' := 68) C dX8_odds_67 rfl (by decide +kernel) ?_
              refine j_lstore (pc' := 70) C [(7, .long (lN 1)), (10, .long (lN 1)), (0, .ref a0), (1, .int (nI y)), (2, .int (nI j)), (3, .int (nI q)), (4, .int (nI z)), (5, .long (lN up)), (9, .int (nI i))] dX8_odds_68 rfl (by decide) rfl ?_
              refine j_iconst (v := (nI 0)) (pc' := 71) C dX8_odds_70 rfl (by decide +kernel) ?_
              refine j_istore (pc' := 73) C [(12, .int (nI 0)), (7, .long (lN 1)), (10, .long (lN 1)), (0, .ref a0), (1, .int (nI y)), (2, .int (nI j)), (3, .int (nI q)), (4, .int (nI z)), (5, .long (lN up)), (9, .int (nI i))] dX8_odds_71 rfl (by decide) rfl ?_
              refine j_lsub [(0, .ref a0), (1, .int (nI y)), (2, .int (nI j)), (3, .int (nI q)), (4, .int (nI z)), (5, .long (lN up)), (7, .long (lN 1)), (9, .int (nI i)), (10, .long (lN 1)), (12, .int (nI 0))] [3, 4, 5, 6, 7, 8, 1, 9, 2, 0] rfl ?_
              refine j_loop3 (fun (c : Nat) (pt : Nat) (wx : Nat) => [(a0, .inr (8, [.int (nI 0), .ref aX, .int ty, .int sp, .int tk, .int pl, .int va, .int fa, .ref aT, .ref aD, .ref aS, .ref aU, .int um, .ref aK, .ref aI, .ref aL, .ref aE, .ref aF, .int sm, .ref aP, .ref aW, .int sn, .ref aB, .ref aM])), (aT, .inl (cyI, 42, .inl (nA t))), (aS, .inl (cyI, 30, .inl (nA s)))]) (fun (c : Nat) (pt : Nat) (wx : Nat) => [(0, .ref a0), (1, .int (nI y)), (2, .int (nI j)), (3, .int (nI q)), (4, .int (nI z)), (5, .long (lN up)), (7, .long (lN wx)), (9, .int (nI i)), (10, .long (lN pt)), (12, .int (nI c))]) (fun (c : Nat) (pt : Nat) (wx : Nat) => []) (fun (c : Nat) (pt : Nat) (wx : Nat) => c ≤ t 1 ∧ pt = ptN y i c ∧ wx = 10 ^ c) (fun (c : Nat) (pt : Nat) (wx : Nat) => t 1 - c) ?_ 0 1 1 ?_
              · intro c pt wx hI73 ih73
                obtain ⟨hc, hpt, hw2⟩ := hI73
                refine j_iload (pc' := 75) C dX8_odds_73 rfl 9 rfl ?_
                refine j_aload_n (pc' := 76) C dX8_odds_75 rfl 0 rfl ?_
                refine j_get (v := .ref aT) (pc' := 79) C KX8 0 8 rfl (by decide) fl_X8_13 rfl rfl dX8_odds_76 rfl ?_
                refine j_iconst (v := (nI 1)) (pc' := 80) C dX8_odds_79 rfl (by decide +kernel) ?_
                refine j_nald (pc' := 81) C 1 rfl (by omega) (by decide) dX8_odds_80 rfl ?_
                refine j_nc_ge (pc' := 84) C 123 dX8_odds_81 (by decide) rfl (by omega) (by omega) (fun c81 => ?_) (fun c81 => ?_)
                · have hcc : c = t 1 := by omega
                  have hpt2 := ptN_le (x := y) (by omega) i c
                  rw [hcc] at hpt2
                  refine j_lload (pc' := 125) C dX8_odds_123 rfl 5 rfl ?_
                  refine j_lload (pc' := 127) C dX8_odds_125 rfl 8 rfl ?_
                  refine j_lconst (v := (lN 0)) (pc' := 128) C dX8_odds_127 rfl (by decide +kernel) ?_
                  refine j_lcmp (v := (lg_cmp (lN pt) (lN 0))) (pc' := 129) C dX8_odds_128 rfl rfl ?_
                  refine j_if_le (pc' := 132) C 148 dX8_odds_129 (by decide) rfl (fun c129 => ?_) (fun c129 => ?_)
                  · have hp0 := (pk_lLE (by rw [hpt, hcc]; omega) (by decide)).mp ((lg_cmp_le _ _).mp c129)
                    refine j_lconst (v := (lN 0)) (pc' := 149) C dX8_odds_148 rfl (by decide +kernel) ?_
                    refine j_ladd (v := (lN (up + 0))) (pc' := 150) C dX8_odds_149 rfl (lN_add up 0) ?_
                    refine j_lstore (pc' := 152) C [(5, .long (lN (up + 0))), (0, .ref a0), (1, .int (nI y)), (2, .int (nI j)), (3, .int (nI q)), (4, .int (nI z)), (7, .long (lN wx)), (9, .int (nI i)), (10, .long (lN pt)), (12, .int (nI c))] dX8_odds_150 rfl (by decide) rfl ?_
                    refine j_iinc (v := (nI (i + 1))) (pc' := 155) C [(9, .int (nI (i + 1))), (5, .long (lN (up + 0))), (0, .ref a0), (1, .int (nI y)), (2, .int (nI j)), (3, .int (nI q)), (4, .int (nI z)), (7, .long (lN wx)), (10, .long (lN pt)), (12, .int (nI c))] dX8_odds_152 rfl 7 rfl (inc_n i 1) (by decide) rfl ?_
                    refine j_goto C 51 dX8_odds_155 (by decide) ?_
                    refine j_lsub [(0, .ref a0), (1, .int (nI y)), (2, .int (nI j)), (3, .int (nI q)), (4, .int (nI z)), (5, .long (lN (up + 0))), (7, .long (lN wx)), (9, .int (nI (i + 1)))] [2, 3, 4, 5, 6, 1, 7, 0] rfl ?_
                    exact ih51 (i + 1) (up + 0) wx (⟨by omega, by rw [upN, ← hu, ← hcc, ← hpt]; simp_all, by right; rw [hw2, hcc]⟩) (by omega)
                  · refine j_aload_n (pc' := 133) C dX8_odds_132 rfl 0 rfl ?_
                    refine j_iload_n (pc' := 134) C dX8_odds_133 rfl 2 rfl ?_
                    refine j_iload_n (pc' := 135) C dX8_odds_134 rfl 3 rfl ?_
                    refine j_iload (pc' := 137) C dX8_odds_135 rfl 7 rfl ?_
                    refine j_cVi (As := [.int (nI j), .int (nI q), .int (nI i)]) (wr := []) (pc' := 140) C (c_X8_isFed (a0 := a0) (th := (nI 0)) (aX := aX) (ty := ty) (sp := sp) (tk := tk) (pl := pl) (va := va) (fa := fa) (aT := aT) (aD := aD) (aS := aS) (aU := aU) (um := um) (aK := aK) (aI := aI) (aL := aL) (aE := aE) (aF := aF) (sm := sm) (aP := aP) (aW := aW) (sn := sn) (aB := aB) (aM := aM) (t := t) (s := s) (l := j) (st := q) (wo := i) (hT := by first | assumption | omega) (hS := by first | assumption | omega) (hl := by first | assumption | omega) (hst := by first | assumption | omega) (hwo := by first | assumption | omega)) Y_X8_isFed (ml_X8_144) [0, 1, 2] [] rfl rfl rfl rfl (by decide) rfl rfl rfl dX8_odds_137 rfl rfl rfl (Nat.le_of_ble_eq_true rfl) ⟨Nat.le_of_ble_eq_true rfl, Nat.le_of_ble_eq_true rfl⟩ ⟨Nat.le_of_ble_eq_true rfl, Nat.le_of_ble_eq_true rfl⟩ ⟨rfl, rfl⟩ (fun r6 w1 hQ => ?_)
                    obtain ⟨rfl, rfl⟩ := hQ
                    refine j_b_eq (pc' := 143) C 148 dX8_odds_140 (by decide) rfl (fun c140 => ?_) (fun c140 => ?_)
                    · refine j_lconst (v := (lN 0)) (pc' := 149) C dX8_odds_148 rfl (by decide +kernel) ?_
                      refine j_ladd (v := (lN (up + 0))) (pc' := 150) C dX8_odds_149 rfl (lN_add up 0) ?_
                      refine j_lstore (pc' := 152) C [(5, .long (lN (up + 0))), (0, .ref a0), (1, .int (nI y)), (2, .int (nI j)), (3, .int (nI q)), (4, .int (nI z)), (7, .long (lN wx)), (9, .int (nI i)), (10, .long (lN pt)), (12, .int (nI c))] dX8_odds_150 rfl (by decide) rfl ?_
                      refine j_iinc (v := (nI (i + 1))) (pc' := 155) C [(9, .int (nI (i + 1))), (5, .long (lN (up + 0))), (0, .ref a0), (1, .int (nI y)), (2, .int (nI j)), (3, .int (nI q)), (4, .int (nI z)), (7, .long (lN wx)), (10, .long (lN pt)), (12, .int (nI c))] dX8_odds_152 rfl 7 rfl (inc_n i 1) (by decide) rfl ?_
                      refine j_goto C 51 dX8_odds_155 (by decide) ?_
                      refine j_lsub [(0, .ref a0), (1, .int (nI y)), (2, .int (nI j)), (3, .int (nI q)), (4, .int (nI z)), (5, .long (lN (up + 0))), (7, .long (lN wx)), (9, .int (nI (i + 1)))] [2, 3, 4, 5, 6, 1, 7, 0] rfl ?_
                      exact ih51 (i + 1) (up + 0) wx (⟨by omega, by rw [upN, ← hu, ← hcc, ← hpt]; simp_all, by right; rw [hw2, hcc]⟩) (by omega)
                    · refine j_lload (pc' := 145) C dX8_odds_143 rfl 8 rfl ?_
                      refine j_goto C 149 dX8_odds_145 (by decide) ?_
                      refine j_ladd (v := (lN (up + pt))) (pc' := 150) C dX8_odds_149 rfl (lN_add up pt) ?_
                      refine j_lstore (pc' := 152) C [(5, .long (lN (up + pt))), (0, .ref a0), (1, .int (nI y)), (2, .int (nI j)), (3, .int (nI q)), (4, .int (nI z)), (7, .long (lN wx)), (9, .int (nI i)), (10, .long (lN pt)), (12, .int (nI c))] dX8_odds_150 rfl (by decide) rfl ?_
                      refine j_iinc (v := (nI (i + 1))) (pc' := 155) C [(9, .int (nI (i + 1))), (5, .long (lN (up + pt))), (0, .ref a0), (1, .int (nI y)), (2, .int (nI j)), (3, .int (nI q)), (4, .int (nI z)), (7, .long (lN wx)), (10, .long (lN pt)), (12, .int (nI c))] dX8_odds_152 rfl 7 rfl (inc_n i 1) (by decide) rfl ?_
                      refine j_goto C 51 dX8_odds_155 (by decide) ?_
                      refine j_lsub [(0, .ref a0), (1, .int (nI y)), (2, .int (nI j)), (3, .int (nI q)), (4, .int (nI z)), (5, .long (lN (up + pt))), (7, .long (lN wx)), (9, .int (nI (i + 1)))] [2, 3, 4, 5, 6, 1, 7, 0] rfl ?_
                      exact ih51 (i + 1) (up + pt) wx (⟨by omega, by rw [upN, ← hu, ← hcc, ← hpt]; simp_all, by right; rw [hw2, hcc]⟩) (by omega)
                · refine j_lload (pc' := 86) C dX8_odds_84 rfl 8 rfl ?_
                  refine j_iload (pc' := 88) C dX8_odds_86 rfl 7 rfl ?_
                  refine j_iload (pc' := 90) C dX8_odds_88 rfl 9 rfl ?_
                  refine j_cSi (As := [.int (nI i), .int (nI c)]) (wr := [(a0, .inr (8, [.int (nI 0), .ref aX, .int ty, .int sp, .int tk, .int pl, .int va, .int fa, .ref aT, .ref aD, .ref aS, .ref aU, .int um, .ref aK, .ref aI, .ref aL, .ref aE, .ref aF, .int sm, .ref aP, .ref aW, .int sn, .ref aB, .ref aM])), (aT, .inl (cyI, 42, .inl (nA t))), (aS, .inl (cyI, 30, .inl (nA s)))]) (pc' := 93) C (c_X8_has (a := i) (k := c) (ha := by first | assumption | omega) (hk9 := by first | assumption | omega)) Y_X8_has (ml_X8_130) [] [0, 1, 2] rfl rfl rfl rfl (by decide) dX8_odds_90 rfl rfl rfl (Nat.le_of_ble_eq_true rfl) ⟨Nat.le_of_ble_eq_true rfl, Nat.le_of_ble_eq_true rfl⟩ ⟨Nat.le_of_ble_eq_true rfl, Nat.le_of_ble_eq_true rfl⟩ ⟨rfl, rfl⟩ (fun r7 w1 hQ => ?_)
                  obtain ⟨rfl, rfl⟩ := hQ
                  refine j_perm [(a0, .inr (8, [.int (nI 0), .ref aX, .int ty, .int sp, .int tk, .int pl, .int va, .int fa, .ref aT, .ref aD, .ref aS, .ref aU, .int um, .ref aK, .ref aI, .ref aL, .ref aE, .ref aF, .int sm, .ref aP, .ref aW, .int sn, .ref aB, .ref aM])), (aT, .inl (cyI, 42, .inl (nA t))), (aS, .inl (cyI, 30, .inl (nA s)))] [0, 1, 2] rfl rfl (by decide) ?_
                  refine j_b_eq (pc' := 96) C 101 dX8_odds_93 (by decide) rfl (fun c93 => ?_) (fun c93 => ?_)
                  · refine j_bipush (v := (nI 10)) (pc' := 103) C dX8_odds_101 rfl (by decide +kernel) ?_
                    refine j_iload_n (pc' := 104) C dX8_odds_103 rfl 1 rfl ?_
                    refine j_isub (v := (nI (10 - y))) (pc' := 105) C dX8_odds_104 rfl (pk_sub (by omega)) ?_
                    refine j_i2l (v := (lN (10 - y))) (pc' := 106) C dX8_odds_105 rfl (nI_l (by omega)) ?_
                    refine j_lmul (v := (lN (pt * (10 - y)))) (pc' := 107) C dX8_odds_106 rfl (lN_mul pt (10 - y)) ?_
                    refine j_lstore (pc' := 109) C [(10, .long (lN (pt * (10 - y)))), (0, .ref a0), (1, .int (nI y)), (2, .int (nI j)), (3, .int (nI q)), (4, .int (nI z)), (5, .long (lN up)), (7, .long (lN wx)), (9, .int (nI i)), (12, .int (nI c))] dX8_odds_107 rfl (by decide) rfl ?_
                    refine j_lload (pc' := 111) C dX8_odds_109 rfl 7 rfl ?_
                    refine j_ldc2 (v := 10) (pc' := 114) C dX8_odds_111 rfl co_X8_189 ?_
                    refine j_topl (lN 10) (by decide +kernel) ?_
                    refine j_lmul (v := (lN (wx * 10))) (pc' := 115) C dX8_odds_114 rfl (lN_mul wx 10) ?_
                    refine j_lstore (pc' := 117) C [(7, .long (lN (wx * 10))), (10, .long (lN (pt * (10 - y)))), (0, .ref a0), (1, .int (nI y)), (2, .int (nI j)), (3, .int (nI q)), (4, .int (nI z)), (5, .long (lN up)), (9, .int (nI i)), (12, .int (nI c))] dX8_odds_115 rfl (by decide) rfl ?_
                    refine j_iinc (v := (nI (c + 1))) (pc' := 120) C [(12, .int (nI (c + 1))), (7, .long (lN (wx * 10))), (10, .long (lN (pt * (10 - y)))), (0, .ref a0), (1, .int (nI y)), (2, .int (nI j)), (3, .int (nI q)), (4, .int (nI z)), (5, .long (lN up)), (9, .int (nI i))] dX8_odds_117 rfl 9 rfl (inc_n c 1) (by decide) rfl ?_
                    refine j_goto C 73 dX8_odds_120 (by decide) ?_
                    refine j_lsub [(0, .ref a0), (1, .int (nI y)), (2, .int (nI j)), (3, .int (nI q)), (4, .int (nI z)), (5, .long (lN up)), (7, .long (lN (wx * 10))), (9, .int (nI i)), (10, .long (lN (pt * (10 - y)))), (12, .int (nI (c + 1)))] [3, 4, 5, 6, 7, 8, 1, 9, 2, 0] rfl ?_
                    exact ih73 (c + 1) (pt * (10 - y)) (wx * 10) (⟨by omega, by rw [ptN, ← hpt]; simp [*], by rw [Nat.pow_succ, hw2]⟩) (by omega)
                  · refine j_iload_n (pc' := 97) C dX8_odds_96 rfl 1 rfl ?_
                    refine j_i2l (v := (lN y)) (pc' := 98) C dX8_odds_97 rfl (nI_l (by omega)) ?_
                    refine j_goto C 106 dX8_odds_98 (by decide) ?_
                    refine j_lmul (v := (lN (pt * y))) (pc' := 107) C dX8_odds_106 rfl (lN_mul pt y) ?_
                    refine j_lstore (pc' := 109) C [(10, .long (lN (pt * y))), (0, .ref a0), (1, .int (nI y)), (2, .int (nI j)), (3, .int (nI q)), (4, .int (nI z)), (5, .long (lN up)), (7, .long (lN wx)), (9, .int (nI i)), (12, .int (nI c))] dX8_odds_107 rfl (by decide) rfl ?_
                    refine j_lload (pc' := 111) C dX8_odds_109 rfl 7 rfl ?_
                    refine j_ldc2 (v := 10) (pc' := 114) C dX8_odds_111 rfl co_X8_189 ?_
                    refine j_topl (lN 10) (by decide +kernel) ?_
                    refine j_lmul (v := (lN (wx * 10))) (pc' := 115) C dX8_odds_114 rfl (lN_mul wx 10) ?_
                    refine j_lstore (pc' := 117) C [(7, .long (lN (wx * 10))), (10, .long (lN (pt * y))), (0, .ref a0), (1, .int (nI y)), (2, .int (nI j)), (3, .int (nI q)), (4, .int (nI z)), (5, .long (lN up)), (9, .int (nI i)), (12, .int (nI c))] dX8_odds_115 rfl (by decide) rfl ?_
                    refine j_iinc (v := (nI (c + 1))) (pc' := 120) C [(12, .int (nI (c + 1))), (7, .long (lN (wx * 10))), (10, .long (lN (pt * y))), (0, .ref a0), (1, .int (nI y)), (2, .int (nI j)), (3, .int (nI q)), (4, .int (nI z)), (5, .long (lN up)), (9, .int (nI i))] dX8_odds_117 rfl 9 rfl (inc_n c 1) (by decide) rfl ?_
                    refine j_goto C 73 dX8_odds_120 (by decide) ?_
                    refine j_lsub [(0, .ref a0), (1, .int (nI y)), (2, .int (nI j)), (3, .int (nI q)), (4, .int (nI z)), (5, .long (lN up)), (7, .long (lN (wx * 10))), (9, .int (nI i)), (10, .long (lN (pt * y))), (12, .int (nI (c + 1)))] [3, 4, 5, 6, 7, 8, 1, 9, 2, 0] rfl ?_
                    exact ih73 (c + 1) (pt * y) (wx * 10) (⟨by omega, by rw [ptN, ← hpt]; simp [*], by rw [Nat.pow_succ, hw2]⟩) (by omega)
              · exact ⟨Nat.zero_le _, rfl, rfl⟩
          · exact ⟨Nat.zero_le _, rfl, Or.inl rfl⟩
        · rw [in_R2 _ _ (by omega)] at c37
          refine j_iconst (v := (-1)) (pc' := 41) C dX8_odds_40 rfl (by decide +kernel) ?_
          exact j_iret C hr hk hA dX8_odds_41 (rfl) (⟨rfl, by unfold odQ; rw [if_pos (by simp_all)]⟩)
