set_option maxHeartbeats 4000000 in
set_option maxRecDepth 100000 in
theorem c_X2_readItem {lch : Launch} {dG : va_G} {cyI cyZ cyO : ClassId} (aR : Nat) (aD : Nat) (aX : Nat) (x : Nat → Nat) (d : Nat → Nat) (aDk : Nat) (aDf : Nat) (aDs : Nat) (aDb : Nat) (aDl : Nat) (dkd : Nat → Nat) (dfi : Nat → Nat) (dse : Nat → Nat) (dsb : Nat → Nat) (dld : Nat → Nat) (n : Nat) (p : Nat) (k : Nat) (fs : Bool) (hn : n ≤ 100) (hx : ∀ i, i < n → x i < 256) (hp : p ≤ n) (hT : WT d) (hRN : RN d dkd dfi dse dsb dld) (hfs : fs = decide (k = 0)) : Ki lch yX2_readItem cX2_readItem 2 .boolean (rmk 5) dG (cyI, cyZ, cyO) [.ref aR, .int (bI fs)] [(aR, .inr (2, [.ref aD, .int (nI n), .ref aX, .int (nI (tke x n p)), .int (tki (tkv x n p)), .int (nI (skp x n p))])), (aX, .inl (cyI, 100, .inl (nA x))), (aD, .inr (1, [.int (nI (d 0)), .int (nI (d 1)), .int (nI (d 2)), .ref aDk, .ref aDf, .ref aDs, .ref aDb, .ref aDl])), (aDk, .inl (cyI, 9, .inl (nA dkd))), (aDf, .inl (cyI, 9, .inl (nA dfi))), (aDs, .inl (cyI, 9, .inl (nA dse))), (aDb, .inl (cyI, 9, .inl (nA dsb))), (aDl, .inl (cyI, 3, .inl (nA dld)))] (fun r w1 => ∃ (at1 : Int32), ∃ (tk1 : Int32), ∃ (pl1 : Int32), ∃ (n0 : Nat), ∃ (n1 : Nat), ∃ (n2 : Nat), ∃ (k1 : Nat → Nat), ∃ (f1 : Nat → Nat), ∃ (s1 : Nat → Nat), ∃ (b1 : Nat → Nat), ∃ (l1 : Nat → Nat), ∃ (b : Bool), w1 = [(aR, .inr (2, [.ref aD, .int (nI n), .ref aX, .int at1, .int tk1, .int pl1])), (aX, .inl (cyI, 100, .inl (nA x))), (aD, .inr (1, [.int (nI n0), .int (nI n1), .int (nI n2), .ref aDk, .ref aDf, .ref aDs, .ref aDb, .ref aDl])), (aDk, .inl (cyI, 9, .inl (nA k1))), (aDf, .inl (cyI, 9, .inl (nA f1))), (aDs, .inl (cyI, 9, .inl (nA s1))), (aDb, .inl (cyI, 9, .inl (nA b1))), (aDl, .inl (cyI, 3, .inl (nA l1)))] ∧ r = (bI b) ∧ RG n (rdI x n k p d) b at1 pl1 n0 n1 n2 k1 f1 s1 b1 l1) := by
  have h1 := hT.n
  have g1 := tke_ge x hp
  have g2 := tke_ge x g1.2
  have g3 := tke_ge x g2.2
  have hvl := tkv_lt (p := p) hx
  refine Ki.of (own := RX2) rfl (by decide) (Nat.le_of_ble_eq_true rfl) (fun p0 e0 s0 m0 ar0 be0 me0 cd0 A0 C hr hk hnm hA => ?_)
  refine j_lsub [(0, .ref aR), (1, .int (bI fs))] [0, 1] rfl ?_
  refine j_aload_n (pc' := 1) C dX2_readItem_0 rfl 0 rfl ?_
  refine j_get (v := .int (tki (tkv x n p))) (pc' := 4) C KX2 0 4 rfl (by decide) fl_X2_35 rfl rfl dX2_readItem_1 rfl ?_
  by_cases sw4_99 : (tki (tkv x n p)) = 99
  · refine j_look (off := 83) C 87 dX2_readItem_4 (by decide +kernel) (by rw [sw4_99]; decide +kernel) (by decide) ?_
    have hv9 : tkv x n p = 99 := (tki_eq hvl (by decide)).mp sw4_99
    refine j_aload_n (pc' := 88) C dX2_readItem_87 rfl 0 rfl ?_
    refine j_iconst (v := (nI 1)) (pc' := 89) C dX2_readItem_88 rfl (by decide +kernel) ?_
    rcases Nat.lt_or_ge (d 1) 9 with hc9 | hc9
    · skip
      refine j_cVi (As := [.int (nI 1)]) (wr := []) (pc' := 92) C (c_X2_readContact (aR := aR) (aD := aD) (aX := aX) (rt := (tki (tkv x n p))) (x := x) (d := d) (aDk := aDk) (aDf := aDf) (aDs := aDs) (aDb := aDb) (aDl := aDl) (dkd := dkd) (dfi := dfi) (dse := dse) (dsb := dsb) (dld := dld) (n := n) (p := tke x n p) (pl := skp x n p) (kd := 1) (hn := by first | assumption | omega) (hx := by first | assumption | omega) (hp := g1.2) (hT := by first | assumption | omega) (hRN := by first | assumption | omega) (hc := hc9) (hkd := by decide)) Y_X2_readContact (ml_X2_49) [0, 1, 2, 3, 4, 5, 6, 7] [] rfl rfl rfl rfl (by decide) rfl rfl rfl dX2_readItem_89 rfl rfl rfl (Nat.le_of_ble_eq_true rfl) ⟨Nat.le_of_ble_eq_true rfl, Nat.le_of_ble_eq_true rfl⟩ ⟨Nat.le_of_ble_eq_true rfl, Nat.le_of_ble_eq_true rfl⟩ ⟨rfl, rfl⟩ (fun r1 w1 hQ => ?_)
      obtain ⟨at1_1, tk1_1, pl1_1, n0_1, n1_1, n2_1, k1_1, f1_1, s1_1, b1_1, l1_1, b_1, rfl, rfl, hF89⟩ := hQ
      have hI : rdI x n k p d = rdS x n (rdC x n 1 (tke x n p) d) := by unfold rdI mayB; rw [hv9, if_neg (by rw [if_neg (by decide), if_neg (by decide), decide_eq_true hc9]; decide)]; rfl
      exact j_iret C hr hk hA dX2_readItem_92 (nrw_bI _) (⟨_, _, _, _, _, _, _, _, _, _, _, _, rfl, rfl, by rw [hI]; exact hF89⟩)
    · skip
      refine j_cVi (As := [.int (nI 1)]) (wr := []) (pc' := 92) C (c_X2_readContact_f (aR := aR) (aD := aD) (aX := aX) (rt := (tki (tkv x n p))) (x := x) (d := d) (aDk := aDk) (aDf := aDf) (aDs := aDs) (aDb := aDb) (aDl := aDl) (dkd := dkd) (dfi := dfi) (dse := dse) (dsb := dsb) (dld := dld) (n := n) (p := tke x n p) (pl := skp x n p) (kd := 1) (hc := hc9) (hT := by first | assumption | omega)) Y_X2_readContact (ml_X2_49) [0, 1, 2, 3, 4, 5, 6, 7] [] rfl rfl rfl rfl (by decide) rfl rfl rfl dX2_readItem_89 rfl rfl rfl (Nat.le_of_ble_eq_true rfl) ⟨Nat.le_of_ble_eq_true rfl, Nat.le_of_ble_eq_true rfl⟩ ⟨Nat.le_of_ble_eq_true rfl, Nat.le_of_ble_eq_true rfl⟩ ⟨rfl, rfl⟩ (fun r2 w1 hQ => ?_)
      obtain ⟨rfl, rfl⟩ := hQ
      exact j_iret C hr hk hA dX2_readItem_92 (nrw_bI _) (⟨_, _, _, _, _, _, _, _, _, _, _, _, rfl, rfl, Or.inr ⟨rfl, _, by unfold rdI mayB; rw [hv9, if_pos (by rw [if_neg (by decide), if_neg (by decide), decide_eq_false (by omega)]; decide)], (skp_ge x hp).2, rfl⟩⟩)
  by_cases sw4_100 : (tki (tkv x n p)) = 100
  · refine j_look (off := 95) C 99 dX2_readItem_4 (by decide +kernel) (by rw [sw4_100]; decide +kernel) (by decide) ?_
    have hv9 : tkv x n p = 100 := (tki_eq hvl (by decide)).mp sw4_100
    refine j_aload_n (pc' := 100) C dX2_readItem_99 rfl 0 rfl ?_
    refine j_iconst (v := (nI 3)) (pc' := 101) C dX2_readItem_100 rfl (by decide +kernel) ?_
    rcases Nat.lt_or_ge (d 1) 9 with hc9 | hc9
    · skip
      refine j_cVi (As := [.int (nI 3)]) (wr := []) (pc' := 104) C (c_X2_readContact (aR := aR) (aD := aD) (aX := aX) (rt := (tki (tkv x n p))) (x := x) (d := d) (aDk := aDk) (aDf := aDf) (aDs := aDs) (aDb := aDb) (aDl := aDl) (dkd := dkd) (dfi := dfi) (dse := dse) (dsb := dsb) (dld := dld) (n := n) (p := tke x n p) (pl := skp x n p) (kd := 3) (hn := by first | assumption | omega) (hx := by first | assumption | omega) (hp := g1.2) (hT := by first | assumption | omega) (hRN := by first | assumption | omega) (hc := hc9) (hkd := by decide)) Y_X2_readContact (ml_X2_49) [0, 1, 2, 3, 4, 5, 6, 7] [] rfl rfl rfl rfl (by decide) rfl rfl rfl dX2_readItem_101 rfl rfl rfl (Nat.le_of_ble_eq_true rfl) ⟨Nat.le_of_ble_eq_true rfl, Nat.le_of_ble_eq_true rfl⟩ ⟨Nat.le_of_ble_eq_true rfl, Nat.le_of_ble_eq_true rfl⟩ ⟨rfl, rfl⟩ (fun r3 w1 hQ => ?_)
      obtain ⟨at1_3, tk1_3, pl1_3, n0_3, n1_3, n2_3, k1_3, f1_3, s1_3, b1_3, l1_3, b_3, rfl, rfl, hF101⟩ := hQ
      have hI : rdI x n k p d = rdS x n (rdC x n 3 (tke x n p) d) := by unfold rdI mayB; rw [hv9, if_neg (by rw [if_neg (by decide), if_neg (by decide), decide_eq_true hc9]; decide)]; rfl
      exact j_iret C hr hk hA dX2_readItem_104 (nrw_bI _) (⟨_, _, _, _, _, _, _, _, _, _, _, _, rfl, rfl, by rw [hI]; exact hF101⟩)
    · skip
      refine j_cVi (As := [.int (nI 3)]) (wr := []) (pc' := 104) C (c_X2_readContact_f (aR := aR) (aD := aD) (aX := aX) (rt := (tki (tkv x n p))) (x := x) (d := d) (aDk := aDk) (aDf := aDf) (aDs := aDs) (aDb := aDb) (aDl := aDl) (dkd := dkd) (dfi := dfi) (dse := dse) (dsb := dsb) (dld := dld) (n := n) (p := tke x n p) (pl := skp x n p) (kd := 3) (hc := hc9) (hT := by first | assumption | omega)) Y_X2_readContact (ml_X2_49) [0, 1, 2, 3, 4, 5, 6, 7] [] rfl rfl rfl rfl (by decide) rfl rfl rfl dX2_readItem_101 rfl rfl rfl (Nat.le_of_ble_eq_true rfl) ⟨Nat.le_of_ble_eq_true rfl, Nat.le_of_ble_eq_true rfl⟩ ⟨Nat.le_of_ble_eq_true rfl, Nat.le_of_ble_eq_true rfl⟩ ⟨rfl, rfl⟩ (fun r4 w1 hQ => ?_)
      obtain ⟨rfl, rfl⟩ := hQ
      exact j_iret C hr hk hA dX2_readItem_104 (nrw_bI _) (⟨_, _, _, _, _, _, _, _, _, _, _, _, rfl, rfl, Or.inr ⟨rfl, _, by unfold rdI mayB; rw [hv9, if_pos (by rw [if_neg (by decide), if_neg (by decide), decide_eq_false (by omega)]; decide)], (skp_ge x hp).2, rfl⟩⟩)
  by_cases sw4_108 : (tki (tkv x n p)) = 108
  · refine j_look (off := 101) C 105 dX2_readItem_4 (by decide +kernel) (by rw [sw4_108]; decide +kernel) (by decide) ?_
    have hv9 : tkv x n p = 108 := (tki_eq hvl (by decide)).mp sw4_108
    refine j_aload_n (pc' := 106) C dX2_readItem_105 rfl 0 rfl ?_
    rcases Nat.lt_or_ge (d 2) 3 with hc9 | hc9
    · skip
      refine j_cVi (As := []) (wr := []) (pc' := 109) C (c_X2_readLoad (aR := aR) (aD := aD) (aX := aX) (rt := (tki (tkv x n p))) (x := x) (d := d) (aDk := aDk) (aDf := aDf) (aDs := aDs) (aDb := aDb) (aDl := aDl) (dkd := dkd) (dfi := dfi) (dse := dse) (dsb := dsb) (dld := dld) (n := n) (p := tke x n p) (pl := skp x n p) (hn := by first | assumption | omega) (hx := by first | assumption | omega) (hp := g1.2) (hT := by first | assumption | omega) (hRN := by first | assumption | omega) (hc := hc9)) Y_X2_readLoad (ml_X2_53) [0, 1, 2, 3, 4, 5, 6, 7] [] rfl rfl rfl rfl (by decide) rfl rfl rfl dX2_readItem_106 rfl rfl rfl (Nat.le_of_ble_eq_true rfl) ⟨Nat.le_of_ble_eq_true rfl, Nat.le_of_ble_eq_true rfl⟩ ⟨Nat.le_of_ble_eq_true rfl, Nat.le_of_ble_eq_true rfl⟩ ⟨rfl, rfl⟩ (fun r5 w1 hQ => ?_)
      obtain ⟨at1_5, tk1_5, pl1_5, n0_5, n1_5, n2_5, k1_5, f1_5, s1_5, b1_5, l1_5, b_5, rfl, rfl, hF106⟩ := hQ
      have hI : rdI x n k p d = rdS x n (rdB x n 108 (tke x n p) d) := by unfold rdI mayB; rw [hv9, if_neg (by rw [if_neg (by decide), if_pos rfl, decide_eq_true hc9]; decide)]
      exact j_iret C hr hk hA dX2_readItem_109 (nrw_bI _) (⟨_, _, _, _, _, _, _, _, _, _, _, _, rfl, rfl, by rw [hI]; exact hF106⟩)
    · skip
      refine j_cVi (As := []) (wr := []) (pc' := 109) C (c_X2_readLoad_f (aR := aR) (aD := aD) (aX := aX) (rt := (tki (tkv x n p))) (x := x) (d := d) (aDk := aDk) (aDf := aDf) (aDs := aDs) (aDb := aDb) (aDl := aDl) (dkd := dkd) (dfi := dfi) (dse := dse) (dsb := dsb) (dld := dld) (n := n) (p := tke x n p) (pl := skp x n p) (hc := hc9) (hT := by first | assumption | omega)) Y_X2_readLoad (ml_X2_53) [0, 1, 2, 3, 4, 5, 6, 7] [] rfl rfl rfl rfl (by decide) rfl rfl rfl dX2_readItem_106 rfl rfl rfl (Nat.le_of_ble_eq_true rfl) ⟨Nat.le_of_ble_eq_true rfl, Nat.le_of_ble_eq_true rfl⟩ ⟨Nat.le_of_ble_eq_true rfl, Nat.le_of_ble_eq_true rfl⟩ ⟨rfl, rfl⟩ (fun r6 w1 hQ => ?_)
      obtain ⟨rfl, rfl⟩ := hQ
      exact j_iret C hr hk hA dX2_readItem_109 (nrw_bI _) (⟨_, _, _, _, _, _, _, _, _, _, _, _, rfl, rfl, Or.inr ⟨rfl, _, by unfold rdI mayB; rw [hv9, if_pos (by rw [if_neg (by decide), if_pos rfl, decide_eq_false (by omega)]; decide)], (skp_ge x hp).2, rfl⟩⟩)
  by_cases sw4_110 : (tki (tkv x n p)) = 110
  · refine j_look (off := 60) C 64 dX2_readItem_4 (by decide +kernel) (by rw [sw4_110]; decide +kernel) (by decide) ?_
    have hv9 : tkv x n p = 110 := (tki_eq hvl (by decide)).mp sw4_110
    refine j_iload_n (pc' := 65) C dX2_readItem_64 rfl 1 rfl ?_
    refine j_b_eq (pc' := 68) C 79 dX2_readItem_65 (by decide) rfl (fun c65 => ?_) (fun c65 => ?_)
    · refine j_iconst (v := (nI 0)) (pc' := 80) C dX2_readItem_79 rfl (by decide +kernel) ?_
      refine j_top (bI false) (by decide +kernel) ?_
      exact j_iret C hr hk hA dX2_readItem_80 (nrw_bI _) (⟨_, _, _, _, _, _, _, _, _, _, _, _, rfl, rfl, Or.inr ⟨rfl, _, by unfold rdI mayB; rw [hv9, if_pos (by rw [if_pos rfl, ← hfs, c65]; decide)], (skp_ge x hp).2, rfl⟩⟩)
    · refine j_aload_n (pc' := 69) C dX2_readItem_68 rfl 0 rfl ?_
      refine j_cVi (As := []) (wr := []) (pc' := 72) C (c_X2_readNodes (aR := aR) (aD := aD) (aX := aX) (rt := (tki (tkv x n p))) (x := x) (d := d) (aDk := aDk) (aDf := aDf) (aDs := aDs) (aDb := aDb) (aDl := aDl) (dkd := dkd) (dfi := dfi) (dse := dse) (dsb := dsb) (dld := dld) (n := n) (p := tke x n p) (pl := skp x n p) (hn := by first | assumption | omega) (hx := by first | assumption | omega) (hp := g1.2) (hT := by first | assumption | omega) (hRN := by first | assumption | omega)) Y_X2_readNodes (ml_X2_45) [0, 1, 2, 3, 4, 5, 6, 7] [] rfl rfl rfl rfl (by decide) rfl rfl rfl dX2_readItem_69 rfl rfl rfl (Nat.le_of_ble_eq_true rfl) ⟨Nat.le_of_ble_eq_true rfl, Nat.le_of_ble_eq_true rfl⟩ ⟨Nat.le_of_ble_eq_true rfl, Nat.le_of_ble_eq_true rfl⟩ ⟨rfl, rfl⟩ (fun r7 w1 hQ => ?_)
      obtain ⟨at1_7, tk1_7, pl1_7, n0_7, n1_7, n2_7, k1_7, f1_7, s1_7, b1_7, l1_7, b_7, rfl, rfl, hF69⟩ := hQ
      refine j_b_eq (pc' := 75) C 79 dX2_readItem_72 (by decide) rfl (fun c72 => ?_) (fun c72 => ?_)
      · refine j_iconst (v := (nI 0)) (pc' := 80) C dX2_readItem_79 rfl (by decide +kernel) ?_
        refine j_top (bI false) (by decide +kernel) ?_
        have hI : rdI x n k p d = rdS x n (rdB x n 110 (tke x n p) d) := by unfold rdI mayB; rw [hv9, if_neg (by rw [if_pos rfl, ← hfs, c65]; decide)]
        rw [c72] at hF69
        exact j_iret C hr hk hA dX2_readItem_80 (nrw_bI _) (⟨_, _, _, _, _, _, _, _, _, _, _, _, rfl, rfl, by rw [hI]; exact hF69⟩)
      · refine j_iconst (v := (nI 1)) (pc' := 76) C dX2_readItem_75 rfl (by decide +kernel) ?_
        refine j_goto C 80 dX2_readItem_76 (by decide) ?_
        refine j_top (bI true) (by decide +kernel) ?_
        have hI : rdI x n k p d = rdS x n (rdB x n 110 (tke x n p) d) := by unfold rdI mayB; rw [hv9, if_neg (by rw [if_pos rfl, ← hfs, c65]; decide)]
        rw [c72] at hF69
        exact j_iret C hr hk hA dX2_readItem_80 (nrw_bI _) (⟨_, _, _, _, _, _, _, _, _, _, _, _, rfl, rfl, by rw [hI]; exact hF69⟩)
  by_cases sw4_111 : (tki (tkv x n p)) = 111
  · refine j_look (off := 77) C 81 dX2_readItem_4 (by decide +kernel) (by rw [sw4_111]; decide +kernel) (by decide) ?_
    have hv9 : tkv x n p = 111 := (tki_eq hvl (by decide)).mp sw4_111
    refine j_aload_n (pc' := 82) C dX2_readItem_81 rfl 0 rfl ?_
    refine j_iconst (v := (nI 0)) (pc' := 83) C dX2_readItem_82 rfl (by decide +kernel) ?_
    rcases Nat.lt_or_ge (d 1) 9 with hc9 | hc9
    · skip
      refine j_cVi (As := [.int (nI 0)]) (wr := []) (pc' := 86) C (c_X2_readContact (aR := aR) (aD := aD) (aX := aX) (rt := (tki (tkv x n p))) (x := x) (d := d) (aDk := aDk) (aDf := aDf) (aDs := aDs) (aDb := aDb) (aDl := aDl) (dkd := dkd) (dfi := dfi) (dse := dse) (dsb := dsb) (dld := dld) (n := n) (p := tke x n p) (pl := skp x n p) (kd := 0) (hn := by first | assumption | omega) (hx := by first | assumption | omega) (hp := g1.2) (hT := by first | assumption | omega) (hRN := by first | assumption | omega) (hc := hc9) (hkd := by decide)) Y_X2_readContact (ml_X2_49) [0, 1, 2, 3, 4, 5, 6, 7] [] rfl rfl rfl rfl (by decide) rfl rfl rfl dX2_readItem_83 rfl rfl rfl (Nat.le_of_ble_eq_true rfl) ⟨Nat.le_of_ble_eq_true rfl, Nat.le_of_ble_eq_true rfl⟩ ⟨Nat.le_of_ble_eq_true rfl, Nat.le_of_ble_eq_true rfl⟩ ⟨rfl, rfl⟩ (fun r8 w1 hQ => ?_)
      obtain ⟨at1_8, tk1_8, pl1_8, n0_8, n1_8, n2_8, k1_8, f1_8, s1_8, b1_8, l1_8, b_8, rfl, rfl, hF83⟩ := hQ
      have hI : rdI x n k p d = rdS x n (rdC x n 0 (tke x n p) d) := by unfold rdI mayB; rw [hv9, if_neg (by rw [if_neg (by decide), if_neg (by decide), decide_eq_true hc9]; decide)]; rfl
      exact j_iret C hr hk hA dX2_readItem_86 (nrw_bI _) (⟨_, _, _, _, _, _, _, _, _, _, _, _, rfl, rfl, by rw [hI]; exact hF83⟩)
    · skip
      refine j_cVi (As := [.int (nI 0)]) (wr := []) (pc' := 86) C (c_X2_readContact_f (aR := aR) (aD := aD) (aX := aX) (rt := (tki (tkv x n p))) (x := x) (d := d) (aDk := aDk) (aDf := aDf) (aDs := aDs) (aDb := aDb) (aDl := aDl) (dkd := dkd) (dfi := dfi) (dse := dse) (dsb := dsb) (dld := dld) (n := n) (p := tke x n p) (pl := skp x n p) (kd := 0) (hc := hc9) (hT := by first | assumption | omega)) Y_X2_readContact (ml_X2_49) [0, 1, 2, 3, 4, 5, 6, 7] [] rfl rfl rfl rfl (by decide) rfl rfl rfl dX2_readItem_83 rfl rfl rfl (Nat.le_of_ble_eq_true rfl) ⟨Nat.le_of_ble_eq_true rfl, Nat.le_of_ble_eq_true rfl⟩ ⟨Nat.le_of_ble_eq_true rfl, Nat.le_of_ble_eq_true rfl⟩ ⟨rfl, rfl⟩ (fun r9 w1 hQ => ?_)
      obtain ⟨rfl, rfl⟩ := hQ
      exact j_iret C hr hk hA dX2_readItem_86 (nrw_bI _) (⟨_, _, _, _, _, _, _, _, _, _, _, _, rfl, rfl, Or.inr ⟨rfl, _, by unfold rdI mayB; rw [hv9, if_pos (by rw [if_neg (by decide), if_neg (by decide), decide_eq_false (by omega)]; decide)], (skp_ge x hp).2, rfl⟩⟩)
  by_cases sw4_119 : (tki (tkv x n p)) = 119
  · refine j_look (off := 89) C 93 dX2_readItem_4 (by decide +kernel) (by rw [sw4_119]; decide +kernel) (by decide) ?_
    have hv9 : tkv x n p = 119 := (tki_eq hvl (by decide)).mp sw4_119
    refine j_aload_n (pc' := 94) C dX2_readItem_93 rfl 0 rfl ?_
    refine j_iconst (v := (nI 2)) (pc' := 95) C dX2_readItem_94 rfl (by decide +kernel) ?_
    rcases Nat.lt_or_ge (d 1) 9 with hc9 | hc9
    · skip
      refine j_cVi (As := [.int (nI 2)]) (wr := []) (pc' := 98) C (c_X2_readContact (aR := aR) (aD := aD) (aX := aX) (rt := (tki (tkv x n p))) (x := x) (d := d) (aDk := aDk) (aDf := aDf) (aDs := aDs) (aDb := aDb) (aDl := aDl) (dkd := dkd) (dfi := dfi) (dse := dse) (dsb := dsb) (dld := dld) (n := n) (p := tke x n p) (pl := skp x n p) (kd := 2) (hn := by first | assumption | omega) (hx := by first | assumption | omega) (hp := g1.2) (hT := by first | assumption | omega) (hRN := by first | assumption | omega) (hc := hc9) (hkd := by decide)) Y_X2_readContact (ml_X2_49) [0, 1, 2, 3, 4, 5, 6, 7] [] rfl rfl rfl rfl (by decide) rfl rfl rfl dX2_readItem_95 rfl rfl rfl (Nat.le_of_ble_eq_true rfl) ⟨Nat.le_of_ble_eq_true rfl, Nat.le_of_ble_eq_true rfl⟩ ⟨Nat.le_of_ble_eq_true rfl, Nat.le_of_ble_eq_true rfl⟩ ⟨rfl, rfl⟩ (fun r10 w1 hQ => ?_)
      obtain ⟨at1_10, tk1_10, pl1_10, n0_10, n1_10, n2_10, k1_10, f1_10, s1_10, b1_10, l1_10, b_10, rfl, rfl, hF95⟩ := hQ
      have hI : rdI x n k p d = rdS x n (rdC x n 2 (tke x n p) d) := by unfold rdI mayB; rw [hv9, if_neg (by rw [if_neg (by decide), if_neg (by decide), decide_eq_true hc9]; decide)]; rfl
      exact j_iret C hr hk hA dX2_readItem_98 (nrw_bI _) (⟨_, _, _, _, _, _, _, _, _, _, _, _, rfl, rfl, by rw [hI]; exact hF95⟩)
    · skip
      refine j_cVi (As := [.int (nI 2)]) (wr := []) (pc' := 98) C (c_X2_readContact_f (aR := aR) (aD := aD) (aX := aX) (rt := (tki (tkv x n p))) (x := x) (d := d) (aDk := aDk) (aDf := aDf) (aDs := aDs) (aDb := aDb) (aDl := aDl) (dkd := dkd) (dfi := dfi) (dse := dse) (dsb := dsb) (dld := dld) (n := n) (p := tke x n p) (pl := skp x n p) (kd := 2) (hc := hc9) (hT := by first | assumption | omega)) Y_X2_readContact (ml_X2_49) [0, 1, 2, 3, 4, 5, 6, 7] [] rfl rfl rfl rfl (by decide) rfl rfl rfl dX2_readItem_95 rfl rfl rfl (Nat.le_of_ble_eq_true rfl) ⟨Nat.le_of_ble_eq_true rfl, Nat.le_of_ble_eq_true rfl⟩ ⟨Nat.le_of_ble_eq_true rfl, Nat.le_of_ble_eq_true rfl⟩ ⟨rfl, rfl⟩ (fun r11 w1 hQ => ?_)
      obtain ⟨rfl, rfl⟩ := hQ
      exact j_iret C hr hk hA dX2_readItem_98 (nrw_bI _) (⟨_, _, _, _, _, _, _, _, _, _, _, _, rfl, rfl, Or.inr ⟨rfl, _, by unfold rdI mayB; rw [hv9, if_pos (by rw [if_neg (by decide), if_neg (by decide), decide_eq_false (by omega)]; decide)], (skp_ge x hp).2, rfl⟩⟩)
  refine j_look (off := 106) C 110 dX2_readItem_4 (by decide +kernel) (by show Op.lookupswitch.offset [(99, 83), (100, 95), (108, 101), (110, 60), (111, 77), (119, 89)] 106 _ = 106; rw [lv_osw sw4_99 (by decide +kernel), lv_osw sw4_100 (by decide +kernel), lv_osw sw4_108 (by decide +kernel), lv_osw sw4_110 (by decide +kernel), lv_osw sw4_111 (by decide +kernel), lv_osw sw4_119 (by decide +kernel)]; rfl) (by decide) ?_
  refine j_iconst (v := (nI 0)) (pc' := 111) C dX2_readItem_110 rfl (by decide +kernel) ?_
  refine j_top (bI false) (by decide +kernel) ?_
  exact j_iret C hr hk hA dX2_readItem_111 (nrw_bI _) (⟨_, _, _, _, _, _, _, _, _, _, _, _, rfl, rfl, Or.inr ⟨rfl, _, by unfold rdI isL; rw [decide_eq_false (by rintro (q9 | q9 | q9 | q9 | q9 | q9); exact (fun q9 => sw4_110 ((tki_eq hvl (by decide)).mpr q9)) q9; exact (fun q9 => sw4_111 ((tki_eq hvl (by decide)).mpr q9)) q9; exact (fun q9 => sw4_99 ((tki_eq hvl (by decide)).mpr q9)) q9; exact (fun q9 => sw4_119 ((tki_eq hvl (by decide)).mpr q9)) q9; exact (fun q9 => sw4_100 ((tki_eq hvl (by decide)).mpr q9)) q9; exact (fun q9 => sw4_108 ((tki_eq hvl (by decide)).mpr q9)) q9), Bool.false_and, if_pos rfl], (skp_ge x hp).2, rfl⟩⟩)

set_option maxHeartbeats 4000000 in
set_option maxRecDepth 100000 in
theorem c_X2_read {lch : Launch} {dG : va_G} {cyI cyZ cyO : ClassId} (aR : Nat) (aD : Nat) (aX : Nat) (ra : Int32) (rt : Int32) (rp : Int32) (x : Nat → Nat) (aDk : Nat) (aDf : Nat) (aDs : Nat) (aDb : Nat) (aDl : Nat) (dkd : Nat → Nat) (dfi : Nat → Nat) (dse : Nat → Nat) (dsb : Nat → Nat) (dld : Nat → Nat) (n : Nat) (q0 : Int32) (q1 : Int32) (q2 : Int32) (hn : n ≤ 100) (hx : ∀ i, i < n → x i < 256) : Ki lch yX2_read cX2_read 2 .int (rmk 6) dG (cyI, cyZ, cyO) [.ref aR] [(aR, .inr (2, [.ref aD, .int (nI n), .ref aX, .int ra, .int rt, .int rp])), (aX, .inl (cyI, 100, .inl (nA x))), (aD, .inr (1, [.int q0, .int q1, .int q2, .ref aDk, .ref aDf, .ref aDs, .ref aDb, .ref aDl])), (aDk, .inl (cyI, 9, .inl (nA dkd))), (aDf, .inl (cyI, 9, .inl (nA dfi))), (aDs, .inl (cyI, 9, .inl (nA dse))), (aDb, .inl (cyI, 9, .inl (nA dsb))), (aDl, .inl (cyI, 3, .inl (nA dld)))] (fun r w1 => ∃ (at1 : Int32), ∃ (tk1 : Int32), ∃ (pl1 : Int32), ∃ (n0 : Nat), ∃ (n1 : Nat), ∃ (n2 : Nat), ∃ (k1 : Nat → Nat), ∃ (f1 : Nat → Nat), ∃ (s1 : Nat → Nat), ∃ (b1 : Nat → Nat), ∃ (l1 : Nat → Nat), w1 = [(aR, .inr (2, [.ref aD, .int (nI n), .ref aX, .int at1, .int tk1, .int pl1])), (aX, .inl (cyI, 100, .inl (nA x))), (aD, .inr (1, [.int (nI n0), .int (nI n1), .int (nI n2), .ref aDk, .ref aDf, .ref aDs, .ref aDb, .ref aDl])), (aDk, .inl (cyI, 9, .inl (nA k1))), (aDf, .inl (cyI, 9, .inl (nA f1))), (aDs, .inl (cyI, 9, .inl (nA s1))), (aDb, .inl (cyI, 9, .inl (nA b1))), (aDl, .inl (cyI, 3, .inl (nA l1)))] ∧ ((∃ f, f ≤ n ∧ rdT x n = .inl f ∧ r = -10 - nI f) ∨ (∃ k D, k ≤ 100 ∧ rdT x n = .inr (k, D) ∧ r = nI k ∧ WT D ∧ n0 = D 0 ∧ n1 = D 1 ∧ n2 = D 2 ∧ RN D k1 f1 s1 b1 l1))) := by
  refine Ki.of (own := RX2) rfl (by decide) (Nat.le_of_ble_eq_true rfl) (fun p0 e0 s0 m0 ar0 be0 me0 cd0 A0 C hr hk hnm hA => ?_)
  refine j_lsub [(0, .ref aR)] [0] rfl ?_
  refine j_aload_n (pc' := 1) C dX2_read_0 rfl 0 rfl ?_
  refine j_get (v := .ref aD) (pc' := 4) C KX2 0 0 rfl (by decide) fl_X2_12 rfl rfl dX2_read_1 rfl ?_
  refine j_cVv (As := []) (wr := [(aR, .inr (2, [.ref aD, .int (nI n), .ref aX, .int ra, .int rt, .int rp])), (aX, .inl (cyI, 100, .inl (nA x))), (aDk, .inl (cyI, 9, .inl (nA dkd))), (aDf, .inl (cyI, 9, .inl (nA dfi))), (aDs, .inl (cyI, 9, .inl (nA dse))), (aDb, .inl (cyI, 9, .inl (nA dsb))), (aDl, .inl (cyI, 3, .inl (nA dld)))]) (pc' := 7) C (c_X1_reset (aD := aD) (aDk := aDk) (aDf := aDf) (aDs := aDs) (aDb := aDb) (aDl := aDl) (q0 := q0) (q1 := q1) (q2 := q2) ) Y_X1_reset (ml_X2_26) [2] [0, 1, 3, 4, 5, 6, 7] rfl rfl rfl rfl (by decide) rfl rfl rfl dX2_read_4 rfl rfl rfl (Nat.le_of_ble_eq_true rfl) ⟨Nat.le_of_ble_eq_true rfl, Nat.le_of_ble_eq_true rfl⟩ ⟨Nat.le_of_ble_eq_true rfl, Nat.le_of_ble_eq_true rfl⟩ ⟨rfl, rfl⟩ (fun w1 hQ => ?_)
  obtain rfl := hQ
  refine j_perm [(aR, .inr (2, [.ref aD, .int (nI n), .ref aX, .int ra, .int rt, .int rp])), (aX, .inl (cyI, 100, .inl (nA x))), (aD, .inr (1, [.int (nI 3), .int (nI 0), .int (nI 0), .ref aDk, .ref aDf, .ref aDs, .ref aDb, .ref aDl])), (aDk, .inl (cyI, 9, .inl (nA dkd))), (aDf, .inl (cyI, 9, .inl (nA dfi))), (aDs, .inl (cyI, 9, .inl (nA dse))), (aDb, .inl (cyI, 9, .inl (nA dsb))), (aDl, .inl (cyI, 3, .inl (nA dld)))] [0, 1, 7, 2, 3, 4, 5, 6] rfl rfl (by decide) ?_
  refine j_w [(aR, .inr (2, [.ref aD, .int (nI n), .ref aX, .int ra, .int rt, .int rp])), (aX, .inl (cyI, 100, .inl (nA x))), (aD, .inr (1, [.int (nI (d0N 0)), .int (nI (d0N 1)), .int (nI (d0N 2)), .ref aDk, .ref aDf, .ref aDs, .ref aDb, .ref aDl])), (aDk, .inl (cyI, 9, .inl (nA dkd))), (aDf, .inl (cyI, 9, .inl (nA dfi))), (aDs, .inl (cyI, 9, .inl (nA dse))), (aDb, .inl (cyI, 9, .inl (nA dsb))), (aDl, .inl (cyI, 3, .inl (nA dld)))] rfl ?_
  refine j_aload_n (pc' := 8) C dX2_read_7 rfl 0 rfl ?_
  refine j_iconst (v := (nI 0)) (pc' := 9) C dX2_read_8 rfl (by decide +kernel) ?_
  refine j_put (pc' := 12) C [(aR, .inr (2, [.ref aD, .int (nI n), .ref aX, .int (nI 0), .int rt, .int rp])), (aX, .inl (cyI, 100, .inl (nA x))), (aD, .inr (1, [.int (nI (d0N 0)), .int (nI (d0N 1)), .int (nI (d0N 2)), .ref aDk, .ref aDf, .ref aDs, .ref aDb, .ref aDl])), (aDk, .inl (cyI, 9, .inl (nA dkd))), (aDf, .inl (cyI, 9, .inl (nA dfi))), (aDs, .inl (cyI, 9, .inl (nA dse))), (aDb, .inl (cyI, 9, .inl (nA dsb))), (aDl, .inl (cyI, 3, .inl (nA dld)))] KX2 0 3 rfl (by decide) fl_X2_29 rfl rfl rfl rfl (Nat.le_of_ble_eq_true rfl) dX2_read_9 rfl rfl ?_
  refine j_iconst (v := (nI 0)) (pc' := 13) C dX2_read_12 rfl (by decide +kernel) ?_
  refine j_istore_n (pc' := 14) C [(1, .int (nI 0)), (0, .ref aR)] dX2_read_13 rfl (by decide) rfl ?_
  refine j_lsub [(0, .ref aR), (1, .int (nI 0))] [1, 0] rfl ?_
  refine j_loop10 (fun (k : Nat) (p : Nat) (d2 : Nat → Nat) (rt2 : Int32) (rp2 : Int32) (kk : Nat → Nat) (ff2 : Nat → Nat) (ss : Nat → Nat) (bb : Nat → Nat) (ll : Nat → Nat) => [(aR, .inr (2, [.ref aD, .int (nI n), .ref aX, .int (nI p), .int rt2, .int rp2])), (aX, .inl (cyI, 100, .inl (nA x))), (aD, .inr (1, [.int (nI (d2 0)), .int (nI (d2 1)), .int (nI (d2 2)), .ref aDk, .ref aDf, .ref aDs, .ref aDb, .ref aDl])), (aDk, .inl (cyI, 9, .inl (nA kk))), (aDf, .inl (cyI, 9, .inl (nA ff2))), (aDs, .inl (cyI, 9, .inl (nA ss))), (aDb, .inl (cyI, 9, .inl (nA bb))), (aDl, .inl (cyI, 3, .inl (nA ll)))]) (fun (k : Nat) (p : Nat) (d2 : Nat → Nat) (rt2 : Int32) (rp2 : Int32) (kk : Nat → Nat) (ff2 : Nat → Nat) (ss : Nat → Nat) (bb : Nat → Nat) (ll : Nat → Nat) => [(0, .ref aR), (1, .int (nI k))]) (fun (k : Nat) (p : Nat) (d2 : Nat → Nat) (rt2 : Int32) (rp2 : Int32) (kk : Nat → Nat) (ff2 : Nat → Nat) (ss : Nat → Nat) (bb : Nat → Nat) (ll : Nat → Nat) => []) (fun (k : Nat) (p : Nat) (d2 : Nat → Nat) (rt2 : Int32) (rp2 : Int32) (kk : Nat → Nat) (ff2 : Nat → Nat) (ss : Nat → Nat) (bb : Nat → Nat) (ll : Nat → Nat) => k ≤ p ∧ p ≤ n ∧ WT d2 ∧ RN d2 kk ff2 ss bb ll ∧ (k = 0 → d2 1 = 0 ∧ d2 2 = 0) ∧ rdA x n (101 - k) k p d2 = rdT x n) (fun (k : Nat) (p : Nat) (d2 : Nat → Nat) (rt2 : Int32) (rp2 : Int32) (kk : Nat → Nat) (ff2 : Nat → Nat) (ss : Nat → Nat) (bb : Nat → Nat) (ll : Nat → Nat) => n - p) ?_ 0 0 d0N rt rp dkd dfi dse dsb dld ?_
  · intro k p d2 rt2 rp2 kk ff2 ss bb ll hI14 ih14
    obtain ⟨hk0, hp, hT2, hRN, hd5, hR⟩ := hI14
    have hvl := tkv_lt (p := p) hx
    refine j_iload_n (pc' := 15) C dX2_read_14 rfl 1 rfl ?_
    refine j_bipush (v := (nI 100)) (pc' := 17) C dX2_read_15 rfl (by decide +kernel) ?_
    refine j_nc_gt (pc' := 20) C 64 dX2_read_17 (by decide) rfl (by omega) (by omega) (fun c17 => ?_) (fun c17 => ?_)
    · exact absurd c17 (by omega)
    · refine j_aload_n (pc' := 21) C dX2_read_20 rfl 0 rfl ?_
      refine j_cVv (As := []) (wr := [(aD, .inr (1, [.int (nI (d2 0)), .int (nI (d2 1)), .int (nI (d2 2)), .ref aDk, .ref aDf, .ref aDs, .ref aDb, .ref aDl])), (aDk, .inl (cyI, 9, .inl (nA kk))), (aDf, .inl (cyI, 9, .inl (nA ff2))), (aDs, .inl (cyI, 9, .inl (nA ss))), (aDb, .inl (cyI, 9, .inl (nA bb))), (aDl, .inl (cyI, 3, .inl (nA ll)))]) (pc' := 24) C (c_X2_nextToken (aR := aR) (aD := aD) (aX := aX) (rt := rt2) (rp := rp2) (x := x) (n := n) (b0 := p) (hn := by first | assumption | omega) (hx := by first | assumption | omega) (hp := hp)) Y_X2_nextToken (ml_X2_32) [0, 1] [2, 3, 4, 5, 6, 7] rfl rfl rfl rfl (by decide) rfl rfl rfl dX2_read_21 rfl rfl rfl (Nat.le_of_ble_eq_true rfl) ⟨Nat.le_of_ble_eq_true rfl, Nat.le_of_ble_eq_true rfl⟩ ⟨Nat.le_of_ble_eq_true rfl, Nat.le_of_ble_eq_true rfl⟩ ⟨rfl, rfl⟩ (fun w1 hQ => ?_)
      obtain rfl := hQ
      refine j_perm [(aR, .inr (2, [.ref aD, .int (nI n), .ref aX, .int (nI (tke x n p)), .int (tki (tkv x n p)), .int (nI (skp x n p))])), (aX, .inl (cyI, 100, .inl (nA x))), (aD, .inr (1, [.int (nI (d2 0)), .int (nI (d2 1)), .int (nI (d2 2)), .ref aDk, .ref aDf, .ref aDs, .ref aDb, .ref aDl])), (aDk, .inl (cyI, 9, .inl (nA kk))), (aDf, .inl (cyI, 9, .inl (nA ff2))), (aDs, .inl (cyI, 9, .inl (nA ss))), (aDb, .inl (cyI, 9, .inl (nA bb))), (aDl, .inl (cyI, 3, .inl (nA ll)))] [6, 7, 0, 1, 2, 3, 4, 5] rfl rfl (by decide) ?_
      refine j_aload_n (pc' := 25) C dX2_read_24 rfl 0 rfl ?_
      refine j_get (v := .int (tki (tkv x n p))) (pc' := 28) C KX2 0 4 rfl (by decide) fl_X2_35 rfl rfl dX2_read_25 rfl ?_
      refine j_iconst (v := (-1)) (pc' := 29) C dX2_read_28 rfl (by decide +kernel) ?_
      refine j_ic_ne (pc' := 32) C 34 dX2_read_29 (by decide) rfl (fun c29 => ?_) (fun c29 => ?_)
      · have h300 : tkv x n p ≠ 300 := fun q9 => c29 ((tki_m1 hvl).mpr q9)
        refine j_aload_n (pc' := 35) C dX2_read_34 rfl 0 rfl ?_
        refine j_iload_n (pc' := 36) C dX2_read_35 rfl 1 rfl ?_
        refine j_nz_ne (pc' := 39) C 43 dX2_read_36 (by decide) rfl (by omega) (fun c36 => ?_) (fun c36 => ?_)
        · refine j_iconst (v := (nI 0)) (pc' := 44) C dX2_read_43 rfl (by decide +kernel) ?_
          refine j_cVi (As := [.int (nI 0)]) (wr := []) (pc' := 47) C (c_X2_readItem (aR := aR) (aD := aD) (aX := aX) (x := x) (d := d2) (aDk := aDk) (aDf := aDf) (aDs := aDs) (aDb := aDb) (aDl := aDl) (dkd := kk) (dfi := ff2) (dse := ss) (dsb := bb) (dld := ll) (n := n) (p := p) (k := k) (fs := false) (hn := by first | assumption | omega) (hx := by first | assumption | omega) (hp := hp) (hT := hT2) (hRN := hRN) (hfs := by rw [decide_eq_false c36])) Y_X2_readItem (ml_X2_38) [0, 1, 2, 3, 4, 5, 6, 7] [] rfl rfl rfl rfl (by decide) rfl rfl rfl dX2_read_44 rfl rfl rfl (Nat.le_of_ble_eq_true rfl) ⟨Nat.le_of_ble_eq_true rfl, Nat.le_of_ble_eq_true rfl⟩ ⟨Nat.le_of_ble_eq_true rfl, Nat.le_of_ble_eq_true rfl⟩ ⟨rfl, rfl⟩ (fun r3 w1 hQ => ?_)
          obtain ⟨at1_3, tk1_3, pl1_3, n0_3, n1_3, n2_3, k1_3, f1_3, s1_3, b1_3, l1_3, b_3, rfl, rfl, hF44⟩ := hQ
          refine j_b_ne (pc' := 50) C 58 dX2_read_47 (by decide) rfl (fun c47 => ?_) (fun c47 => ?_)
          · obtain ⟨q, D, hrs, hqn, rfl, rfl, rfl, rfl, hRN2⟩ : ∃ q D, rdI x n k p d2 = .inr (q, D) ∧ q ≤ n ∧ at1_3 = nI q ∧ n0_3 = D 0 ∧ n1_3 = D 1 ∧ n2_3 = D 2 ∧ RN D k1_3 f1_3 s1_3 b1_3 l1_3 := by
              rcases hF44 with ⟨_, q9⟩ | ⟨q9, _⟩
              · exact q9
              · rw [c47] at q9; cases q9
            have hok := rdI_ok hT2 hp hd5 hrs h300
            refine j_iinc (v := (nI (k + 1))) (pc' := 61) C [(1, .int (nI (k + 1))), (0, .ref aR)] dX2_read_58 rfl 1 rfl (inc_n k 1) (by decide) rfl ?_
            refine j_goto C 14 dX2_read_61 (by decide) ?_
            refine j_lsub [(0, .ref aR), (1, .int (nI (k + 1)))] [1, 0] rfl ?_
            exact ih14 (k + 1) q D tk1_3 pl1_3 k1_3 f1_3 s1_3 b1_3 l1_3 (⟨by omega, by omega, hok.1, hRN2, fun q9 => by omega, by rw [← hR, show 101 - k = (101 - (k + 1)) + 1 by omega]; exact (rdA_next h300 hrs).symm⟩) (by omega)
          · obtain ⟨ff, hrs, hfn, rfl⟩ : ∃ f, rdI x n k p d2 = .inl f ∧ f ≤ n ∧ pl1_3 = nI f := by
              rcases hF44 with ⟨q9, _⟩ | ⟨_, q9⟩
              · rw [c47] at q9; cases q9
              · exact q9
            refine j_bipush (v := (-10)) (pc' := 52) C dX2_read_50 rfl (by decide +kernel) ?_
            refine j_aload_n (pc' := 53) C dX2_read_52 rfl 0 rfl ?_
            refine j_get (v := .int (nI ff)) (pc' := 56) C KX2 0 5 rfl (by decide) fl_X2_42 rfl rfl dX2_read_53 rfl ?_
            refine j_isub (v := ((-10) - (nI ff))) (pc' := 57) C dX2_read_56 rfl (rfl) ?_
            exact j_iret C hr hk hA dX2_read_57 (rfl) (⟨_, _, _, _, _, _, _, _, _, _, _, rfl, Or.inl ⟨ff, hfn, by rw [← hR, show 101 - k = (100 - k) + 1 by omega]; exact rdA_bad h300 hrs, rfl⟩⟩)
        · refine j_iconst (v := (nI 1)) (pc' := 40) C dX2_read_39 rfl (by decide +kernel) ?_
          refine j_goto C 44 dX2_read_40 (by decide) ?_
          refine j_cVi (As := [.int (nI 1)]) (wr := []) (pc' := 47) C (c_X2_readItem (aR := aR) (aD := aD) (aX := aX) (x := x) (d := d2) (aDk := aDk) (aDf := aDf) (aDs := aDs) (aDb := aDb) (aDl := aDl) (dkd := kk) (dfi := ff2) (dse := ss) (dsb := bb) (dld := ll) (n := n) (p := p) (k := k) (fs := true) (hn := by first | assumption | omega) (hx := by first | assumption | omega) (hp := hp) (hT := hT2) (hRN := hRN) (hfs := by rw [decide_eq_true c36])) Y_X2_readItem (ml_X2_38) [0, 1, 2, 3, 4, 5, 6, 7] [] rfl rfl rfl rfl (by decide) rfl rfl rfl dX2_read_44 rfl rfl rfl (Nat.le_of_ble_eq_true rfl) ⟨Nat.le_of_ble_eq_true rfl, Nat.le_of_ble_eq_true rfl⟩ ⟨Nat.le_of_ble_eq_true rfl, Nat.le_of_ble_eq_true rfl⟩ ⟨rfl, rfl⟩ (fun r4 w1 hQ => ?_)
          obtain ⟨at1_4, tk1_4, pl1_4, n0_4, n1_4, n2_4, k1_4, f1_4, s1_4, b1_4, l1_4, b_4, rfl, rfl, hF44⟩ := hQ
          refine j_b_ne (pc' := 50) C 58 dX2_read_47 (by decide) rfl (fun c47 => ?_) (fun c47 => ?_)
          · obtain ⟨q, D, hrs, hqn, rfl, rfl, rfl, rfl, hRN2⟩ : ∃ q D, rdI x n k p d2 = .inr (q, D) ∧ q ≤ n ∧ at1_4 = nI q ∧ n0_4 = D 0 ∧ n1_4 = D 1 ∧ n2_4 = D 2 ∧ RN D k1_4 f1_4 s1_4 b1_4 l1_4 := by
              rcases hF44 with ⟨_, q9⟩ | ⟨q9, _⟩
              · exact q9
              · rw [c47] at q9; cases q9
            have hok := rdI_ok hT2 hp hd5 hrs h300
            refine j_iinc (v := (nI (k + 1))) (pc' := 61) C [(1, .int (nI (k + 1))), (0, .ref aR)] dX2_read_58 rfl 1 rfl (inc_n k 1) (by decide) rfl ?_
            refine j_goto C 14 dX2_read_61 (by decide) ?_
            refine j_lsub [(0, .ref aR), (1, .int (nI (k + 1)))] [1, 0] rfl ?_
            exact ih14 (k + 1) q D tk1_4 pl1_4 k1_4 f1_4 s1_4 b1_4 l1_4 (⟨by omega, by omega, hok.1, hRN2, fun q9 => by omega, by rw [← hR, show 101 - k = (101 - (k + 1)) + 1 by omega]; exact (rdA_next h300 hrs).symm⟩) (by omega)
          · obtain ⟨ff, hrs, hfn, rfl⟩ : ∃ f, rdI x n k p d2 = .inl f ∧ f ≤ n ∧ pl1_4 = nI f := by
              rcases hF44 with ⟨q9, _⟩ | ⟨_, q9⟩
              · rw [c47] at q9; cases q9
              · exact q9
            refine j_bipush (v := (-10)) (pc' := 52) C dX2_read_50 rfl (by decide +kernel) ?_
            refine j_aload_n (pc' := 53) C dX2_read_52 rfl 0 rfl ?_
            refine j_get (v := .int (nI ff)) (pc' := 56) C KX2 0 5 rfl (by decide) fl_X2_42 rfl rfl dX2_read_53 rfl ?_
            refine j_isub (v := ((-10) - (nI ff))) (pc' := 57) C dX2_read_56 rfl (rfl) ?_
            exact j_iret C hr hk hA dX2_read_57 (rfl) (⟨_, _, _, _, _, _, _, _, _, _, _, rfl, Or.inl ⟨ff, hfn, by rw [← hR, show 101 - k = (100 - k) + 1 by omega]; exact rdA_bad h300 hrs, rfl⟩⟩)
      · have h300e := (tki_m1 hvl).mp (Classical.not_not.mp c29)
        refine j_iload_n (pc' := 33) C dX2_read_32 rfl 1 rfl ?_
        exact j_iret C hr hk hA dX2_read_33 (rfl) (⟨_, _, _, _, _, _, _, _, _, _, _, rfl, Or.inr ⟨k, d2, by omega, by rw [← hR, show 101 - k = (100 - k) + 1 by omega]; exact rdA_end h300e, rfl, hT2, rfl, rfl, rfl, hRN⟩⟩)
  · exact ⟨Nat.le_refl _, Nat.zero_le _, WT_d0, ⟨fun c hc => absurd hc (by simp [d0N]), fun l hl => absurd hl (by simp [d0N])⟩, fun _ => ⟨rfl, rfl⟩, rfl⟩
