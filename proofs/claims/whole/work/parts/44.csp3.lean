set_option maxHeartbeats 4000000 in
set_option maxRecDepth 100000 in
theorem c_X7_path {lch : Launch} {dG : va_G} {cyI cyZ cyO : ClassId} (a0 : Nat) (aR : Nat) (aN : Nat) (aO : Nat) (aH : Nat) (aE : Nat) (aW : Nat) (aK : Nat) (aIm : Nat) (aKp : Nat) (aMb : Nat) (t : Nat → Nat) (aKd : Nat) (aFi : Nat) (aSe : Nat) (aSb : Nat) (aLd : Nat) (kd : Nat → Nat) (fi : Nat → Nat) (se : Nat → Nat) (sb : Nat → Nat) (ld : Nat → Nat) (aWi : Nat) (aCu : Nat) (aCb : Nat) (aSk : Nat) (wi : Nat → Nat) (cu : Nat → Nat) (cb : Nat → Nat) (sk : Nat → Nat) (aSh : Nat) (aFo : Nat) (aBa : Nat) (aRc : Nat) (gr : Bool) (sh : Nat → Nat) (fo : Nat → Bool) (ba : Nat → Bool) (wf : Int32) (wb : Int32) (wl : Int32) (wq : Int32) (ww : Int32) (aSl : Nat) (aTr : Nat) (wg : Int32) (wp : Int32) (wz : Int32) (tr : Nat → Nat) (s : Nat → Nat) (l : Int32) (k : Int32) (w : Int32) (hT : WT t) (hS : WS s) (hN : RN t kd fi se sb ld) (hR : RS s wi cu cb sk) : Ki lch yX7_path cX7_path 4 .int (rmk 12) dG (cyI, cyZ, cyO) [.ref a0, .int l, .int k, .int w] [(a0, .inr (7, [.ref aR, .ref aN, .ref aO, .ref aH, .ref aE, .ref aW, .ref aK, .ref aIm, .ref aKp, .ref aMb])), (aN, .inr (1, [.int (nI (t 0)), .int (nI (t 1)), .int (nI (t 2)), .ref aKd, .ref aFi, .ref aSe, .ref aSb, .ref aLd])), (aKd, .inl (cyI, 9, .inl (nA kd))), (aFi, .inl (cyI, 9, .inl (nA fi))), (aSe, .inl (cyI, 9, .inl (nA se))), (aSb, .inl (cyI, 9, .inl (nA sb))), (aLd, .inl (cyI, 3, .inl (nA ld))), (aO, .inr (4, [.ref aWi, .ref aCu, .ref aCb, .ref aSk])), (aWi, .inl (cyI, 3, .inl (nA wi))), (aCu, .inl (cyI, 9, .inl (nA cu))), (aCb, .inl (cyI, 9, .inl (nA cb))), (aSk, .inl (cyI, 9, .inl (nA sk))), (aW, .inr (6, [.ref aSh, .ref aN, .ref aO, .ref aFo, .ref aBa, .ref aRc, .int (bI gr)])), (aSh, .inl (cyI, 9, .inl (nA sh))), (aFo, .inl (cyZ, 9, .inl (bA fo))), (aBa, .inl (cyZ, 9, .inl (bA ba))), (aK, .inr (5, [.int wf, .int wb, .int wl, .int wq, .int ww, .ref aSl, .ref aN, .ref aW, .ref aTr, .int wg, .int wp, .int wz])), (aTr, .inl (cyI, 7, .inl (nA tr)))] (fun r w1 => ∃ (sh1 : Nat → Nat), ∃ (fo1 : Nat → Bool), ∃ (ba1 : Nat → Bool), ∃ (wf1 : Int32), ∃ (wb1 : Int32), ∃ (wl1 : Int32), ∃ (wq1 : Int32), ∃ (ww1 : Int32), ∃ (wg1 : Int32), ∃ (wp1 : Int32), ∃ (wz1 : Int32), ∃ (tr1 : Nat → Nat), w1 = [(a0, .inr (7, [.ref aR, .ref aN, .ref aO, .ref aH, .ref aE, .ref aW, .ref aK, .ref aIm, .ref aKp, .ref aMb])), (aN, .inr (1, [.int (nI (t 0)), .int (nI (t 1)), .int (nI (t 2)), .ref aKd, .ref aFi, .ref aSe, .ref aSb, .ref aLd])), (aKd, .inl (cyI, 9, .inl (nA kd))), (aFi, .inl (cyI, 9, .inl (nA fi))), (aSe, .inl (cyI, 9, .inl (nA se))), (aSb, .inl (cyI, 9, .inl (nA sb))), (aLd, .inl (cyI, 3, .inl (nA ld))), (aO, .inr (4, [.ref aWi, .ref aCu, .ref aCb, .ref aSk])), (aWi, .inl (cyI, 3, .inl (nA wi))), (aCu, .inl (cyI, 9, .inl (nA cu))), (aCb, .inl (cyI, 9, .inl (nA cb))), (aSk, .inl (cyI, 9, .inl (nA sk))), (aW, .inr (6, [.ref aSh, .ref aN, .ref aO, .ref aFo, .ref aBa, .ref aRc, .int (bI gr)])), (aSh, .inl (cyI, 9, .inl (nA sh1))), (aFo, .inl (cyZ, 9, .inl (bA fo1))), (aBa, .inl (cyZ, 9, .inl (bA ba1))), (aK, .inr (5, [.int wf1, .int wb1, .int wl1, .int wq1, .int ww1, .ref aSl, .ref aN, .ref aW, .ref aTr, .int wg1, .int wp1, .int wz1])), (aTr, .inl (cyI, 7, .inl (nA tr1)))] ∧ r = paQ t s l k w) := by
  have h1 := hT.n
  have hkd : ∀ c, c < t 1 → kd c = t (3 + c) := fun c hc => (hN.1 c hc).1
  have hfi : ∀ c, c < t 1 → fi c = t (12 + c) := fun c hc => (hN.1 c hc).2.1
  have hse : ∀ c, c < t 1 → se c = t (21 + c) := fun c hc => (hN.1 c hc).2.2.1
  have hsb : ∀ c, c < t 1 → sb c = t (30 + c) := fun c hc => (hN.1 c hc).2.2.2
  have hld : ∀ l, l < t 2 → ld l = t (39 + l) := hN.2
  have hwi : ∀ l, l < 3 → wi l = s l := hR.1
  have hcu : ∀ c, c < 9 → cu c = s (3 + c) := fun c hc => (hR.2 c hc).1
  have hcb : ∀ c, c < 9 → cb c = s (12 + c) := fun c hc => (hR.2 c hc).2.1
  have hsk : ∀ c, c < 9 → sk c = s (21 + c) := fun c hc => (hR.2 c hc).2.2
  refine Ki.of (own := RX7) rfl (by decide) (Nat.le_of_ble_eq_true rfl) (fun p0 e0 s0 m0 ar0 be0 me0 cd0 A0 C hr hk hnm hA => ?_)
  refine j_lsub [(0, .ref a0), (1, .int l), (2, .int k), (3, .int w)] [0, 1, 2, 3] rfl ?_
  refine j_aload_n (pc' := 1) C dX7_path_0 rfl 0 rfl ?_
  refine j_iload_n (pc' := 2) C dX7_path_1 rfl 1 rfl ?_
  refine j_cVi (As := [.int l]) (wr := [(aKd, .inl (cyI, 9, .inl (nA kd))), (aFi, .inl (cyI, 9, .inl (nA fi))), (aSe, .inl (cyI, 9, .inl (nA se))), (aSb, .inl (cyI, 9, .inl (nA sb))), (aLd, .inl (cyI, 3, .inl (nA ld))), (aO, .inr (4, [.ref aWi, .ref aCu, .ref aCb, .ref aSk])), (aWi, .inl (cyI, 3, .inl (nA wi))), (aCu, .inl (cyI, 9, .inl (nA cu))), (aCb, .inl (cyI, 9, .inl (nA cb))), (aSk, .inl (cyI, 9, .inl (nA sk))), (aW, .inr (6, [.ref aSh, .ref aN, .ref aO, .ref aFo, .ref aBa, .ref aRc, .int (bI gr)])), (aSh, .inl (cyI, 9, .inl (nA sh))), (aFo, .inl (cyZ, 9, .inl (bA fo))), (aBa, .inl (cyZ, 9, .inl (bA ba))), (aK, .inr (5, [.int wf, .int wb, .int wl, .int wq, .int ww, .ref aSl, .ref aN, .ref aW, .ref aTr, .int wg, .int wp, .int wz])), (aTr, .inl (cyI, 7, .inl (nA tr)))]) (pc' := 5) C (c_X7_isLoad (a0 := a0) (aR := aR) (aN := aN) (aO := aO) (aH := aH) (aE := aE) (aW := aW) (aK := aK) (aIm := aIm) (aKp := aKp) (aMb := aMb) (t := t) (aKd := aKd) (aFi := aFi) (aSe := aSe) (aSb := aSb) (aLd := aLd) (v := l) (hT := by first | assumption | omega)) Y_X7_isLoad (ml_X7_129) [0, 1] [2, 3, 4, 5, 6, 7, 8, 9, 10, 11, 12, 13, 14, 15, 16, 17] rfl rfl rfl rfl (by decide) rfl rfl rfl dX7_path_2 rfl rfl rfl (Nat.le_of_ble_eq_true rfl) ⟨Nat.le_of_ble_eq_true rfl, Nat.le_of_ble_eq_true rfl⟩ ⟨Nat.le_of_ble_eq_true rfl, Nat.le_of_ble_eq_true rfl⟩ ⟨rfl, rfl⟩ (fun r1 w1 hQ => ?_)
  obtain ⟨rfl, rfl⟩ := hQ
  refine j_perm [(a0, .inr (7, [.ref aR, .ref aN, .ref aO, .ref aH, .ref aE, .ref aW, .ref aK, .ref aIm, .ref aKp, .ref aMb])), (aN, .inr (1, [.int (nI (t 0)), .int (nI (t 1)), .int (nI (t 2)), .ref aKd, .ref aFi, .ref aSe, .ref aSb, .ref aLd])), (aKd, .inl (cyI, 9, .inl (nA kd))), (aFi, .inl (cyI, 9, .inl (nA fi))), (aSe, .inl (cyI, 9, .inl (nA se))), (aSb, .inl (cyI, 9, .inl (nA sb))), (aLd, .inl (cyI, 3, .inl (nA ld))), (aO, .inr (4, [.ref aWi, .ref aCu, .ref aCb, .ref aSk])), (aWi, .inl (cyI, 3, .inl (nA wi))), (aCu, .inl (cyI, 9, .inl (nA cu))), (aCb, .inl (cyI, 9, .inl (nA cb))), (aSk, .inl (cyI, 9, .inl (nA sk))), (aW, .inr (6, [.ref aSh, .ref aN, .ref aO, .ref aFo, .ref aBa, .ref aRc, .int (bI gr)])), (aSh, .inl (cyI, 9, .inl (nA sh))), (aFo, .inl (cyZ, 9, .inl (bA fo))), (aBa, .inl (cyZ, 9, .inl (bA ba))), (aK, .inr (5, [.int wf, .int wb, .int wl, .int wq, .int ww, .ref aSl, .ref aN, .ref aW, .ref aTr, .int wg, .int wp, .int wz])), (aTr, .inl (cyI, 7, .inl (nA tr)))] [16, 17, 0, 1, 2, 3, 4, 5, 6, 7, 8, 9, 10, 11, 12, 13, 14, 15] rfl rfl (by decide) ?_
  refine j_b_eq (pc' := 8) C 21 dX7_path_5 (by decide) rfl (fun c5 => ?_) (fun c5 => ?_)
  · refine j_iconst (v := (-1)) (pc' := 22) C dX7_path_21 rfl (by decide +kernel) ?_
    exact j_iret C hr hk hA dX7_path_22 (rfl) (⟨_, _, _, _, _, _, _, _, _, _, _, _, rfl, by unfold paQ; rw [if_pos (by rw [c5]; rfl)]⟩)
  · obtain ⟨j, hj, rfl⟩ := inR_t (c5) (by omega)
    have hin := inR_n (j := j) (n := t 2) hj (by omega)
    have hal := pAll_len (s := s) (l := j) hT
    refine j_iload_n (pc' := 9) C dX7_path_8 rfl 2 rfl ?_
    refine j_if_lt (pc' := 12) C 21 dX7_path_9 (by decide) rfl (fun c9 => ?_) (fun c9 => ?_)
    · refine j_iconst (v := (-1)) (pc' := 22) C dX7_path_21 rfl (by decide +kernel) ?_
      exact j_iret C hr hk hA dX7_path_22 (rfl) (⟨_, _, _, _, _, _, _, _, _, _, _, _, rfl, by unfold paQ; rw [if_pos (by rw [decide_eq_false (by rw [i_lt, i_0] at c9; omega), Bool.and_false]; rfl)]⟩)
    · obtain ⟨kk, hkk, rfl⟩ := nI_of c9
      have hk0 : decide (0 ≤ (nI kk).toInt) = true := decide_eq_true (by rw [nI_toInt hkk]; omega)
      refine j_iload_n (pc' := 13) C dX7_path_12 rfl 3 rfl ?_
      refine j_if_lt (pc' := 16) C 21 dX7_path_13 (by decide) rfl (fun c13 => ?_) (fun c13 => ?_)
      · refine j_iconst (v := (-1)) (pc' := 22) C dX7_path_21 rfl (by decide +kernel) ?_
        exact j_iret C hr hk hA dX7_path_22 (rfl) (⟨_, _, _, _, _, _, _, _, _, _, _, _, rfl, by unfold paQ; rw [if_pos (by rw [in_lo c13, Bool.and_false])]⟩)
      · refine j_iload_n (pc' := 17) C dX7_path_16 rfl 3 rfl ?_
        refine j_iconst (v := (nI 2)) (pc' := 18) C dX7_path_17 rfl (by decide +kernel) ?_
        refine j_ic_le (pc' := 21) C 23 dX7_path_18 (by decide) rfl (fun c18 => ?_) (fun c18 => ?_)
        · obtain ⟨q, hq, rfl⟩ := inR_t (in_ok2 (a := 2) (by decide) c13 c18) (by decide)
          have hin2 := inR_n (j := q) (n := 3) hq (by decide)
          refine j_aload_n (pc' := 24) C dX7_path_23 rfl 0 rfl ?_
          refine j_get (v := .ref aW) (pc' := 27) C KX7 0 5 rfl (by decide) fl_X7_49 rfl rfl dX7_path_24 rfl ?_
          refine j_cVv (As := []) (wr := [(a0, .inr (7, [.ref aR, .ref aN, .ref aO, .ref aH, .ref aE, .ref aW, .ref aK, .ref aIm, .ref aKp, .ref aMb])), (aFi, .inl (cyI, 9, .inl (nA fi))), (aSe, .inl (cyI, 9, .inl (nA se))), (aLd, .inl (cyI, 3, .inl (nA ld))), (aWi, .inl (cyI, 3, .inl (nA wi))), (aK, .inr (5, [.int wf, .int wb, .int wl, .int wq, .int ww, .ref aSl, .ref aN, .ref aW, .ref aTr, .int wg, .int wp, .int wz])), (aTr, .inl (cyI, 7, .inl (nA tr)))]) (pc' := 30) C (c_X6_layAll (aW := aW) (aSh := aSh) (aN := aN) (aO := aO) (aFo := aFo) (aBa := aBa) (aRc := aRc) (gr := gr) (sh := sh) (fo := fo) (ba := ba) (t := t) (aKd := aKd) (aFi := aFi) (aSe := aSe) (aSb := aSb) (aLd := aLd) (kd := kd) (sb := sb) (aWi := aWi) (aCu := aCu) (aCb := aCb) (aSk := aSk) (cu := cu) (cb := cb) (sk := sk) (s := s) (hT := by first | assumption | omega) (hS := by first | assumption | omega) (hkd := by first | assumption | omega) (hsb := by first | assumption | omega) (hcu := by first | assumption | omega) (hcb := by first | assumption | omega) (hsk := by first | assumption | omega)) Y_X6_layAll (ml_X7_157) [12, 13, 14, 15, 1, 2, 5, 7, 9, 10, 11] [0, 3, 4, 6, 8, 16, 17] rfl rfl rfl rfl (by decide) rfl rfl rfl dX7_path_27 rfl rfl rfl (Nat.le_of_ble_eq_true rfl) ⟨Nat.le_of_ble_eq_true rfl, Nat.le_of_ble_eq_true rfl⟩ ⟨Nat.le_of_ble_eq_true rfl, Nat.le_of_ble_eq_true rfl⟩ ⟨rfl, rfl⟩ (fun w1 hQ => ?_)
          obtain ⟨sh1_2, fo1_2, ba1_2, rfl, hF27⟩ := hQ
          refine j_perm [(a0, .inr (7, [.ref aR, .ref aN, .ref aO, .ref aH, .ref aE, .ref aW, .ref aK, .ref aIm, .ref aKp, .ref aMb])), (aN, .inr (1, [.int (nI (t 0)), .int (nI (t 1)), .int (nI (t 2)), .ref aKd, .ref aFi, .ref aSe, .ref aSb, .ref aLd])), (aKd, .inl (cyI, 9, .inl (nA kd))), (aFi, .inl (cyI, 9, .inl (nA fi))), (aSe, .inl (cyI, 9, .inl (nA se))), (aSb, .inl (cyI, 9, .inl (nA sb))), (aLd, .inl (cyI, 3, .inl (nA ld))), (aO, .inr (4, [.ref aWi, .ref aCu, .ref aCb, .ref aSk])), (aWi, .inl (cyI, 3, .inl (nA wi))), (aCu, .inl (cyI, 9, .inl (nA cu))), (aCb, .inl (cyI, 9, .inl (nA cb))), (aSk, .inl (cyI, 9, .inl (nA sk))), (aW, .inr (6, [.ref aSh, .ref aN, .ref aO, .ref aFo, .ref aBa, .ref aRc, .int (bI gr)])), (aSh, .inl (cyI, 9, .inl (nA sh1_2))), (aFo, .inl (cyZ, 9, .inl (bA fo1_2))), (aBa, .inl (cyZ, 9, .inl (bA ba1_2))), (aK, .inr (5, [.int wf, .int wb, .int wl, .int wq, .int ww, .ref aSl, .ref aN, .ref aW, .ref aTr, .int wg, .int wp, .int wz])), (aTr, .inl (cyI, 7, .inl (nA tr)))] [0, 11, 12, 1, 2, 13, 3, 14, 4, 15, 16, 17, 7, 8, 9, 10, 5, 6] rfl rfl (by decide) ?_
          refine j_aload_n (pc' := 31) C dX7_path_30 rfl 0 rfl ?_
          refine j_get (v := .ref aK) (pc' := 34) C KX7 0 6 rfl (by decide) fl_X7_58 rfl rfl dX7_path_31 rfl ?_
          refine j_iload_n (pc' := 35) C dX7_path_34 rfl 1 rfl ?_
          refine j_iload_n (pc' := 36) C dX7_path_35 rfl 2 rfl ?_
          refine j_bipush (v := (-9)) (pc' := 38) C dX7_path_36 rfl (by decide +kernel) ?_
          refine j_cVv (As := [.int (nI j), .int (nI kk), .int (-9)]) (wr := [(a0, .inr (7, [.ref aR, .ref aN, .ref aO, .ref aH, .ref aE, .ref aW, .ref aK, .ref aIm, .ref aKp, .ref aMb])), (aKd, .inl (cyI, 9, .inl (nA kd))), (aSb, .inl (cyI, 9, .inl (nA sb))), (aO, .inr (4, [.ref aWi, .ref aCu, .ref aCb, .ref aSk])), (aWi, .inl (cyI, 3, .inl (nA wi))), (aCu, .inl (cyI, 9, .inl (nA cu))), (aCb, .inl (cyI, 9, .inl (nA cb))), (aSk, .inl (cyI, 9, .inl (nA sk)))]) (pc' := 41) C (c_X5_run_P (aK := aK) (wf := wf) (wb := wb) (wl := wl) (wq := wq) (ww := ww) (aSl := aSl) (aN := aN) (aW := aW) (aTr := aTr) (wg := wg) (wp := wp) (wz := wz) (tr := tr) (aSh := aSh) (aO := aO) (aFo := aFo) (aBa := aBa) (aRc := aRc) (gr := gr) (sh := sh1_2) (fo := fo1_2) (ba := ba1_2) (t := t) (aKd := aKd) (aFi := aFi) (aSe := aSe) (aSb := aSb) (aLd := aLd) (fi := fi) (se := se) (ld := ld) (s := s) (l := j) (wp2 := (nI kk)) (hT := by first | assumption | omega) (hfi := by first | assumption | omega) (hse := by first | assumption | omega) (hld := by first | assumption | omega) (hL := hF27) (hl := hj)) Y_X5_run (ml_X7_160) [16, 17, 12, 13, 14, 15, 1, 3, 4, 6] [0, 2, 5, 7, 8, 9, 10, 11] rfl rfl rfl rfl (by decide) rfl rfl rfl dX7_path_38 rfl rfl rfl (Nat.le_of_ble_eq_true rfl) ⟨Nat.le_of_ble_eq_true rfl, Nat.le_of_ble_eq_true rfl⟩ ⟨Nat.le_of_ble_eq_true rfl, Nat.le_of_ble_eq_true rfl⟩ ⟨rfl, rfl⟩ (fun w1 hQ => ?_)
          obtain ⟨wb1_3, wl1_3, wq1_3, tr1_3, rfl, hF38⟩ := hQ
          refine j_perm [(a0, .inr (7, [.ref aR, .ref aN, .ref aO, .ref aH, .ref aE, .ref aW, .ref aK, .ref aIm, .ref aKp, .ref aMb])), (aN, .inr (1, [.int (nI (t 0)), .int (nI (t 1)), .int (nI (t 2)), .ref aKd, .ref aFi, .ref aSe, .ref aSb, .ref aLd])), (aKd, .inl (cyI, 9, .inl (nA kd))), (aFi, .inl (cyI, 9, .inl (nA fi))), (aSe, .inl (cyI, 9, .inl (nA se))), (aSb, .inl (cyI, 9, .inl (nA sb))), (aLd, .inl (cyI, 3, .inl (nA ld))), (aO, .inr (4, [.ref aWi, .ref aCu, .ref aCb, .ref aSk])), (aWi, .inl (cyI, 3, .inl (nA wi))), (aCu, .inl (cyI, 9, .inl (nA cu))), (aCb, .inl (cyI, 9, .inl (nA cb))), (aSk, .inl (cyI, 9, .inl (nA sk))), (aW, .inr (6, [.ref aSh, .ref aN, .ref aO, .ref aFo, .ref aBa, .ref aRc, .int (bI gr)])), (aSh, .inl (cyI, 9, .inl (nA sh1_2))), (aFo, .inl (cyZ, 9, .inl (bA fo1_2))), (aBa, .inl (cyZ, 9, .inl (bA ba1_2))), (aK, .inr (5, [.int (nI ((pAll t s j).length)), .int wb1_3, .int wl1_3, .int wq1_3, .int (nI 0), .ref aSl, .ref aN, .ref aW, .ref aTr, .int (nI (t (39 + j))), .int (nI kk), .int (-9)])), (aTr, .inl (cyI, 7, .inl (nA tr1_3)))] [0, 14, 1, 15, 16, 2, 17, 3, 4, 5, 6, 7, 10, 11, 12, 13, 8, 9] rfl rfl (by decide) ?_
          refine j_iload_n (pc' := 42) C dX7_path_41 rfl 2 rfl ?_
          refine j_aload_n (pc' := 43) C dX7_path_42 rfl 0 rfl ?_
          refine j_get (v := .ref aK) (pc' := 46) C KX7 0 6 rfl (by decide) fl_X7_58 rfl rfl dX7_path_43 rfl ?_
          refine j_get (v := .int (nI ((pAll t s j).length))) (pc' := 49) C KX5 16 0 rfl (by decide) fl_X7_164 rfl rfl dX7_path_46 rfl ?_
          refine j_nc_lt (pc' := 52) C 55 dX7_path_49 (by decide) rfl (by omega) (by omega) (fun c49 => ?_) (fun c49 => ?_)
          · refine j_iload_n (pc' := 56) C dX7_path_55 rfl 3 rfl ?_
            refine j_nz_ne (pc' := 59) C 67 dX7_path_56 (by decide) rfl (by omega) (fun c56 => ?_) (fun c56 => ?_)
            · refine j_iload_n (pc' := 68) C dX7_path_67 rfl 3 rfl ?_
              refine j_iconst (v := (nI 1)) (pc' := 69) C dX7_path_68 rfl (by decide +kernel) ?_
              refine j_nc_ne (pc' := 72) C 82 dX7_path_69 (by decide) rfl (by omega) (by omega) (fun c69 => ?_) (fun c69 => ?_)
              · refine j_aload_n (pc' := 83) C dX7_path_82 rfl 0 rfl ?_
                refine j_get (v := .ref aK) (pc' := 86) C KX7 0 6 rfl (by decide) fl_X7_58 rfl rfl dX7_path_83 rfl ?_
                refine j_get (v := .int wq1_3) (pc' := 89) C KX5 16 3 rfl (by decide) fl_X7_171 rfl rfl dX7_path_86 rfl ?_
                obtain ⟨pp, hpp⟩ : ∃ pp, (pAll t s j)[kk]? = some pp := ⟨_, List.getElem?_eq_getElem c49⟩
                rw [selP_at (by omega) (by omega) (Nat.zero_le _) (by rw [Nat.sub_zero]; exact hpp)] at hF38
                exact j_iret C hr hk hA dX7_path_89 (rfl) (⟨_, _, _, _, _, _, _, _, _, _, _, _, rfl, by unfold paQ; rw [if_neg (by rw [hin, hk0, hin2]; decide), nI_clamp (by omega), nI_clamp (by omega), hpp]; dsimp only; rw [if_neg (by rw [nI_eq (by omega) (by decide)]; omega), if_neg (by rw [nI_eq (by omega) (by decide)]; omega)]; exact congrArg (fun z => z.2.2) hF38⟩)
              · refine j_aload_n (pc' := 73) C dX7_path_72 rfl 0 rfl ?_
                refine j_get (v := .ref aK) (pc' := 76) C KX7 0 6 rfl (by decide) fl_X7_58 rfl rfl dX7_path_73 rfl ?_
                refine j_get (v := .int wl1_3) (pc' := 79) C KX5 16 2 rfl (by decide) fl_X7_170 rfl rfl dX7_path_76 rfl ?_
                refine j_goto C 89 dX7_path_79 (by decide) ?_
                obtain ⟨pp, hpp⟩ : ∃ pp, (pAll t s j)[kk]? = some pp := ⟨_, List.getElem?_eq_getElem c49⟩
                rw [selP_at (by omega) (by omega) (Nat.zero_le _) (by rw [Nat.sub_zero]; exact hpp)] at hF38
                exact j_iret C hr hk hA dX7_path_89 (rfl) (⟨_, _, _, _, _, _, _, _, _, _, _, _, rfl, by unfold paQ; rw [if_neg (by rw [hin, hk0, hin2]; decide), nI_clamp (by omega), nI_clamp (by omega), hpp]; dsimp only; rw [if_neg (by rw [nI_eq (by omega) (by decide)]; omega), if_pos (by rw [c69])]; exact congrArg (fun z => z.2.1) hF38⟩)
            · refine j_aload_n (pc' := 60) C dX7_path_59 rfl 0 rfl ?_
              refine j_get (v := .ref aK) (pc' := 63) C KX7 0 6 rfl (by decide) fl_X7_58 rfl rfl dX7_path_60 rfl ?_
              refine j_get (v := .int wb1_3) (pc' := 66) C KX5 16 1 rfl (by decide) fl_X7_167 rfl rfl dX7_path_63 rfl ?_
              obtain ⟨pp, hpp⟩ : ∃ pp, (pAll t s j)[kk]? = some pp := ⟨_, List.getElem?_eq_getElem c49⟩
              rw [selP_at (by omega) (by omega) (Nat.zero_le _) (by rw [Nat.sub_zero]; exact hpp)] at hF38
              exact j_iret C hr hk hA dX7_path_66 (rfl) (⟨_, _, _, _, _, _, _, _, _, _, _, _, rfl, by unfold paQ; rw [if_neg (by rw [hin, hk0, hin2]; decide), nI_clamp (by omega), nI_clamp (by omega), hpp]; dsimp only; rw [if_pos (by rw [c56])]; exact congrArg (fun z => z.1) hF38⟩)
          · refine j_bipush (v := (-9)) (pc' := 54) C dX7_path_52 rfl (by decide +kernel) ?_
            exact j_iret C hr hk hA dX7_path_54 (rfl) (⟨_, _, _, _, _, _, _, _, _, _, _, _, rfl, by unfold paQ; rw [if_neg (by rw [hin, hk0, hin2]; decide), nI_clamp (by omega), nI_clamp (by omega), List.getElem?_eq_none (by omega)]⟩)
        · refine j_iconst (v := (-1)) (pc' := 22) C dX7_path_21 rfl (by decide +kernel) ?_
          exact j_iret C hr hk hA dX7_path_22 (rfl) (⟨_, _, _, _, _, _, _, _, _, _, _, _, rfl, by unfold paQ; rw [if_pos (by rw [in_hi2 (a := 2) (by decide) c18, Bool.and_false])]⟩)

set_option maxHeartbeats 4000000 in
set_option maxRecDepth 100000 in
theorem c_X7_shortest {lch : Launch} {dG : va_G} {cyI cyZ cyO : ClassId} (a0 : Nat) (aR : Nat) (aN : Nat) (aO : Nat) (aH : Nat) (aE : Nat) (aW : Nat) (aK : Nat) (aIm : Nat) (aKp : Nat) (aMb : Nat) (t : Nat → Nat) (aKd : Nat) (aFi : Nat) (aSe : Nat) (aSb : Nat) (aLd : Nat) (kd : Nat → Nat) (fi : Nat → Nat) (se : Nat → Nat) (sb : Nat → Nat) (ld : Nat → Nat) (aWi : Nat) (aCu : Nat) (aCb : Nat) (aSk : Nat) (wi : Nat → Nat) (cu : Nat → Nat) (cb : Nat → Nat) (sk : Nat → Nat) (aSh : Nat) (aFo : Nat) (aBa : Nat) (aRc : Nat) (gr : Bool) (sh : Nat → Nat) (fo : Nat → Bool) (ba : Nat → Bool) (wf : Int32) (wb : Int32) (wl : Int32) (wq : Int32) (ww : Int32) (aSl : Nat) (aTr : Nat) (wg : Int32) (wp : Int32) (wz : Int32) (tr : Nat → Nat) (stl : Nat → Nat) (s : Nat → Nat) (l : Int32) (v : Int32) (k : Int32) (hT : WT t) (hS : WS s) (hN : RN t kd fi se sb ld) (hR : RS s wi cu cb sk) : Ki lch yX7_shortest cX7_shortest 4 .int (rmk 12) dG (cyI, cyZ, cyO) [.ref a0, .int l, .int v, .int k] [(a0, .inr (7, [.ref aR, .ref aN, .ref aO, .ref aH, .ref aE, .ref aW, .ref aK, .ref aIm, .ref aKp, .ref aMb])), (aN, .inr (1, [.int (nI (t 0)), .int (nI (t 1)), .int (nI (t 2)), .ref aKd, .ref aFi, .ref aSe, .ref aSb, .ref aLd])), (aKd, .inl (cyI, 9, .inl (nA kd))), (aFi, .inl (cyI, 9, .inl (nA fi))), (aSe, .inl (cyI, 9, .inl (nA se))), (aSb, .inl (cyI, 9, .inl (nA sb))), (aLd, .inl (cyI, 3, .inl (nA ld))), (aO, .inr (4, [.ref aWi, .ref aCu, .ref aCb, .ref aSk])), (aWi, .inl (cyI, 3, .inl (nA wi))), (aCu, .inl (cyI, 9, .inl (nA cu))), (aCb, .inl (cyI, 9, .inl (nA cb))), (aSk, .inl (cyI, 9, .inl (nA sk))), (aW, .inr (6, [.ref aSh, .ref aN, .ref aO, .ref aFo, .ref aBa, .ref aRc, .int (bI gr)])), (aSh, .inl (cyI, 9, .inl (nA sh))), (aFo, .inl (cyZ, 9, .inl (bA fo))), (aBa, .inl (cyZ, 9, .inl (bA ba))), (aK, .inr (5, [.int wf, .int wb, .int wl, .int wq, .int ww, .ref aSl, .ref aN, .ref aW, .ref aTr, .int wg, .int wp, .int wz])), (aTr, .inl (cyI, 7, .inl (nA tr))), (aSl, .inl (cyI, 7, .inl (nA stl)))] (fun r w1 => ∃ (sh1 : Nat → Nat), ∃ (fo1 : Nat → Bool), ∃ (ba1 : Nat → Bool), ∃ (wf1 : Int32), ∃ (wb1 : Int32), ∃ (wl1 : Int32), ∃ (wq1 : Int32), ∃ (ww1 : Int32), ∃ (wg1 : Int32), ∃ (wp1 : Int32), ∃ (wz1 : Int32), ∃ (tr1 : Nat → Nat), ∃ (stl1 : Nat → Nat), w1 = [(a0, .inr (7, [.ref aR, .ref aN, .ref aO, .ref aH, .ref aE, .ref aW, .ref aK, .ref aIm, .ref aKp, .ref aMb])), (aN, .inr (1, [.int (nI (t 0)), .int (nI (t 1)), .int (nI (t 2)), .ref aKd, .ref aFi, .ref aSe, .ref aSb, .ref aLd])), (aKd, .inl (cyI, 9, .inl (nA kd))), (aFi, .inl (cyI, 9, .inl (nA fi))), (aSe, .inl (cyI, 9, .inl (nA se))), (aSb, .inl (cyI, 9, .inl (nA sb))), (aLd, .inl (cyI, 3, .inl (nA ld))), (aO, .inr (4, [.ref aWi, .ref aCu, .ref aCb, .ref aSk])), (aWi, .inl (cyI, 3, .inl (nA wi))), (aCu, .inl (cyI, 9, .inl (nA cu))), (aCb, .inl (cyI, 9, .inl (nA cb))), (aSk, .inl (cyI, 9, .inl (nA sk))), (aW, .inr (6, [.ref aSh, .ref aN, .ref aO, .ref aFo, .ref aBa, .ref aRc, .int (bI gr)])), (aSh, .inl (cyI, 9, .inl (nA sh1))), (aFo, .inl (cyZ, 9, .inl (bA fo1))), (aBa, .inl (cyZ, 9, .inl (bA ba1))), (aK, .inr (5, [.int wf1, .int wb1, .int wl1, .int wq1, .int ww1, .ref aSl, .ref aN, .ref aW, .ref aTr, .int wg1, .int wp1, .int wz1])), (aTr, .inl (cyI, 7, .inl (nA tr1))), (aSl, .inl (cyI, 7, .inl (nA stl1)))] ∧ r = stQ t s l v k) := by
  have h1 := hT.n
  have hkd : ∀ c, c < t 1 → kd c = t (3 + c) := fun c hc => (hN.1 c hc).1
  have hfi : ∀ c, c < t 1 → fi c = t (12 + c) := fun c hc => (hN.1 c hc).2.1
  have hse : ∀ c, c < t 1 → se c = t (21 + c) := fun c hc => (hN.1 c hc).2.2.1
  have hsb : ∀ c, c < t 1 → sb c = t (30 + c) := fun c hc => (hN.1 c hc).2.2.2
  have hld : ∀ l, l < t 2 → ld l = t (39 + l) := hN.2
  have hwi : ∀ l, l < 3 → wi l = s l := hR.1
  have hcu : ∀ c, c < 9 → cu c = s (3 + c) := fun c hc => (hR.2 c hc).1
  have hcb : ∀ c, c < 9 → cb c = s (12 + c) := fun c hc => (hR.2 c hc).2.1
  have hsk : ∀ c, c < 9 → sk c = s (21 + c) := fun c hc => (hR.2 c hc).2.2
  refine Ki.of (own := RX7) rfl (by decide) (Nat.le_of_ble_eq_true rfl) (fun p0 e0 s0 m0 ar0 be0 me0 cd0 A0 C hr hk hnm hA => ?_)
  refine j_lsub [(0, .ref a0), (1, .int l), (2, .int v), (3, .int k)] [0, 1, 2, 3] rfl ?_
  refine j_aload_n (pc' := 1) C dX7_shortest_0 rfl 0 rfl ?_
  refine j_iload_n (pc' := 2) C dX7_shortest_1 rfl 1 rfl ?_
  refine j_cVi (As := [.int l]) (wr := [(aKd, .inl (cyI, 9, .inl (nA kd))), (aFi, .inl (cyI, 9, .inl (nA fi))), (aSe, .inl (cyI, 9, .inl (nA se))), (aSb, .inl (cyI, 9, .inl (nA sb))), (aLd, .inl (cyI, 3, .inl (nA ld))), (aO, .inr (4, [.ref aWi, .ref aCu, .ref aCb, .ref aSk])), (aWi, .inl (cyI, 3, .inl (nA wi))), (aCu, .inl (cyI, 9, .inl (nA cu))), (aCb, .inl (cyI, 9, .inl (nA cb))), (aSk, .inl (cyI, 9, .inl (nA sk))), (aW, .inr (6, [.ref aSh, .ref aN, .ref aO, .ref aFo, .ref aBa, .ref aRc, .int (bI gr)])), (aSh, .inl (cyI, 9, .inl (nA sh))), (aFo, .inl (cyZ, 9, .inl (bA fo))), (aBa, .inl (cyZ, 9, .inl (bA ba))), (aK, .inr (5, [.int wf, .int wb, .int wl, .int wq, .int ww, .ref aSl, .ref aN, .ref aW, .ref aTr, .int wg, .int wp, .int wz])), (aTr, .inl (cyI, 7, .inl (nA tr))), (aSl, .inl (cyI, 7, .inl (nA stl)))]) (pc' := 5) C (c_X7_isLoad (a0 := a0) (aR := aR) (aN := aN) (aO := aO) (aH := aH) (aE := aE) (aW := aW) (aK := aK) (aIm := aIm) (aKp := aKp) (aMb := aMb) (t := t) (aKd := aKd) (aFi := aFi) (aSe := aSe) (aSb := aSb) (aLd := aLd) (v := l) (hT := by first | assumption | omega)) Y_X7_isLoad (ml_X7_129) [0, 1] [2, 3, 4, 5, 6, 7, 8, 9, 10, 11, 12, 13, 14, 15, 16, 17, 18] rfl rfl rfl rfl (by decide) rfl rfl rfl dX7_shortest_2 rfl rfl rfl (Nat.le_of_ble_eq_true rfl) ⟨Nat.le_of_ble_eq_true rfl, Nat.le_of_ble_eq_true rfl⟩ ⟨Nat.le_of_ble_eq_true rfl, Nat.le_of_ble_eq_true rfl⟩ ⟨rfl, rfl⟩ (fun r1 w1 hQ => ?_)
  obtain ⟨rfl, rfl⟩ := hQ
  refine j_perm [(a0, .inr (7, [.ref aR, .ref aN, .ref aO, .ref aH, .ref aE, .ref aW, .ref aK, .ref aIm, .ref aKp, .ref aMb])), (aN, .inr (1, [.int (nI (t 0)), .int (nI (t 1)), .int (nI (t 2)), .ref aKd, .ref aFi, .ref aSe, .ref aSb, .ref aLd])), (aKd, .inl (cyI, 9, .inl (nA kd))), (aFi, .inl (cyI, 9, .inl (nA fi))), (aSe, .inl (cyI, 9, .inl (nA se))), (aSb, .inl (cyI, 9, .inl (nA sb))), (aLd, .inl (cyI, 3, .inl (nA ld))), (aO, .inr (4, [.ref aWi, .ref aCu, .ref aCb, .ref aSk])), (aWi, .inl (cyI, 3, .inl (nA wi))), (aCu, .inl (cyI, 9, .inl (nA cu))), (aCb, .inl (cyI, 9, .inl (nA cb))), (aSk, .inl (cyI, 9, .inl (nA sk))), (aW, .inr (6, [.ref aSh, .ref aN, .ref aO, .ref aFo, .ref aBa, .ref aRc, .int (bI gr)])), (aSh, .inl (cyI, 9, .inl (nA sh))), (aFo, .inl (cyZ, 9, .inl (bA fo))), (aBa, .inl (cyZ, 9, .inl (bA ba))), (aK, .inr (5, [.int wf, .int wb, .int wl, .int wq, .int ww, .ref aSl, .ref aN, .ref aW, .ref aTr, .int wg, .int wp, .int wz])), (aTr, .inl (cyI, 7, .inl (nA tr))), (aSl, .inl (cyI, 7, .inl (nA stl)))] [17, 18, 0, 1, 2, 3, 4, 5, 6, 7, 8, 9, 10, 11, 12, 13, 14, 15, 16] rfl rfl (by decide) ?_
  refine j_b_eq (pc' := 8) C 20 dX7_shortest_5 (by decide) rfl (fun c5 => ?_) (fun c5 => ?_)
  · refine j_iconst (v := (-1)) (pc' := 21) C dX7_shortest_20 rfl (by decide +kernel) ?_
    exact j_iret C hr hk hA dX7_shortest_21 (rfl) (⟨_, _, _, _, _, _, _, _, _, _, _, _, _, rfl, by unfold stQ; rw [if_pos (by rw [c5]; rfl)]⟩)
  · obtain ⟨j, hj, rfl⟩ := inR_t (c5) (by omega)
    have hin := inR_n (j := j) (n := t 2) hj (by omega)
    refine j_iload_n (pc' := 9) C dX7_shortest_8 rfl 2 rfl ?_
    refine j_cSi (As := [.int v]) (wr := [(a0, .inr (7, [.ref aR, .ref aN, .ref aO, .ref aH, .ref aE, .ref aW, .ref aK, .ref aIm, .ref aKp, .ref aMb])), (aN, .inr (1, [.int (nI (t 0)), .int (nI (t 1)), .int (nI (t 2)), .ref aKd, .ref aFi, .ref aSe, .ref aSb, .ref aLd])), (aKd, .inl (cyI, 9, .inl (nA kd))), (aFi, .inl (cyI, 9, .inl (nA fi))), (aSe, .inl (cyI, 9, .inl (nA se))), (aSb, .inl (cyI, 9, .inl (nA sb))), (aLd, .inl (cyI, 3, .inl (nA ld))), (aO, .inr (4, [.ref aWi, .ref aCu, .ref aCb, .ref aSk])), (aWi, .inl (cyI, 3, .inl (nA wi))), (aCu, .inl (cyI, 9, .inl (nA cu))), (aCb, .inl (cyI, 9, .inl (nA cb))), (aSk, .inl (cyI, 9, .inl (nA sk))), (aW, .inr (6, [.ref aSh, .ref aN, .ref aO, .ref aFo, .ref aBa, .ref aRc, .int (bI gr)])), (aSh, .inl (cyI, 9, .inl (nA sh))), (aFo, .inl (cyZ, 9, .inl (bA fo))), (aBa, .inl (cyZ, 9, .inl (bA ba))), (aK, .inr (5, [.int wf, .int wb, .int wl, .int wq, .int ww, .ref aSl, .ref aN, .ref aW, .ref aTr, .int wg, .int wp, .int wz])), (aTr, .inl (cyI, 7, .inl (nA tr))), (aSl, .inl (cyI, 7, .inl (nA stl)))]) (pc' := 12) C (c_X7_isState (v := v) ) Y_X7_isState (ml_X7_174) [] [0, 1, 2, 3, 4, 5, 6, 7, 8, 9, 10, 11, 12, 13, 14, 15, 16, 17, 18] rfl rfl rfl rfl (by decide) dX7_shortest_9 rfl rfl rfl (Nat.le_of_ble_eq_true rfl) ⟨Nat.le_of_ble_eq_true rfl, Nat.le_of_ble_eq_true rfl⟩ ⟨Nat.le_of_ble_eq_true rfl, Nat.le_of_ble_eq_true rfl⟩ ⟨rfl, rfl⟩ (fun r2 w1 hQ => ?_)
    obtain ⟨rfl, rfl⟩ := hQ
    refine j_perm [(a0, .inr (7, [.ref aR, .ref aN, .ref aO, .ref aH, .ref aE, .ref aW, .ref aK, .ref aIm, .ref aKp, .ref aMb])), (aN, .inr (1, [.int (nI (t 0)), .int (nI (t 1)), .int (nI (t 2)), .ref aKd, .ref aFi, .ref aSe, .ref aSb, .ref aLd])), (aKd, .inl (cyI, 9, .inl (nA kd))), (aFi, .inl (cyI, 9, .inl (nA fi))), (aSe, .inl (cyI, 9, .inl (nA se))), (aSb, .inl (cyI, 9, .inl (nA sb))), (aLd, .inl (cyI, 3, .inl (nA ld))), (aO, .inr (4, [.ref aWi, .ref aCu, .ref aCb, .ref aSk])), (aWi, .inl (cyI, 3, .inl (nA wi))), (aCu, .inl (cyI, 9, .inl (nA cu))), (aCb, .inl (cyI, 9, .inl (nA cb))), (aSk, .inl (cyI, 9, .inl (nA sk))), (aW, .inr (6, [.ref aSh, .ref aN, .ref aO, .ref aFo, .ref aBa, .ref aRc, .int (bI gr)])), (aSh, .inl (cyI, 9, .inl (nA sh))), (aFo, .inl (cyZ, 9, .inl (bA fo))), (aBa, .inl (cyZ, 9, .inl (bA ba))), (aK, .inr (5, [.int wf, .int wb, .int wl, .int wq, .int ww, .ref aSl, .ref aN, .ref aW, .ref aTr, .int wg, .int wp, .int wz])), (aTr, .inl (cyI, 7, .inl (nA tr))), (aSl, .inl (cyI, 7, .inl (nA stl)))] [0, 1, 2, 3, 4, 5, 6, 7, 8, 9, 10, 11, 12, 13, 14, 15, 16, 17, 18] rfl rfl (by decide) ?_
    refine j_b_eq (pc' := 15) C 20 dX7_shortest_12 (by decide) rfl (fun c12 => ?_) (fun c12 => ?_)
    · refine j_iconst (v := (-1)) (pc' := 21) C dX7_shortest_20 rfl (by decide +kernel) ?_
      exact j_iret C hr hk hA dX7_shortest_21 (rfl) (⟨_, _, _, _, _, _, _, _, _, _, _, _, _, rfl, by unfold stQ; rw [if_pos (by rw [c12, Bool.and_false]; rfl)]⟩)
    · obtain ⟨q, hq, rfl⟩ := inR_t (c12) (by decide)
      have hin2 := inR_n (j := q) (n := 16) hq (by decide)
      refine j_iload_n (pc' := 16) C dX7_shortest_15 rfl 3 rfl ?_
      refine j_iconst (v := (-1)) (pc' := 17) C dX7_shortest_16 rfl (by decide +kernel) ?_
      refine j_ic_ge (pc' := 20) C 22 dX7_shortest_17 (by decide) rfl (fun c17 => ?_) (fun c17 => ?_)
      · have hk1 : decide (-1 ≤ k.toInt) = true := decide_eq_true (by rw [i_le, i_m1] at c17; exact c17)
        refine j_aload_n (pc' := 23) C dX7_shortest_22 rfl 0 rfl ?_
        refine j_get (v := .ref aW) (pc' := 26) C KX7 0 5 rfl (by decide) fl_X7_49 rfl rfl dX7_shortest_23 rfl ?_
        refine j_cVv (As := []) (wr := [(a0, .inr (7, [.ref aR, .ref aN, .ref aO, .ref aH, .ref aE, .ref aW, .ref aK, .ref aIm, .ref aKp, .ref aMb])), (aFi, .inl (cyI, 9, .inl (nA fi))), (aSe, .inl (cyI, 9, .inl (nA se))), (aLd, .inl (cyI, 3, .inl (nA ld))), (aWi, .inl (cyI, 3, .inl (nA wi))), (aK, .inr (5, [.int wf, .int wb, .int wl, .int wq, .int ww, .ref aSl, .ref aN, .ref aW, .ref aTr, .int wg, .int wp, .int wz])), (aTr, .inl (cyI, 7, .inl (nA tr))), (aSl, .inl (cyI, 7, .inl (nA stl)))]) (pc' := 29) C (c_X6_layAll (aW := aW) (aSh := aSh) (aN := aN) (aO := aO) (aFo := aFo) (aBa := aBa) (aRc := aRc) (gr := gr) (sh := sh) (fo := fo) (ba := ba) (t := t) (aKd := aKd) (aFi := aFi) (aSe := aSe) (aSb := aSb) (aLd := aLd) (kd := kd) (sb := sb) (aWi := aWi) (aCu := aCu) (aCb := aCb) (aSk := aSk) (cu := cu) (cb := cb) (sk := sk) (s := s) (hT := by first | assumption | omega) (hS := by first | assumption | omega) (hkd := by first | assumption | omega) (hsb := by first | assumption | omega) (hcu := by first | assumption | omega) (hcb := by first | assumption | omega) (hsk := by first | assumption | omega)) Y_X6_layAll (ml_X7_157) [12, 13, 14, 15, 1, 2, 5, 7, 9, 10, 11] [0, 3, 4, 6, 8, 16, 17, 18] rfl rfl rfl rfl (by decide) rfl rfl rfl dX7_shortest_26 rfl rfl rfl (Nat.le_of_ble_eq_true rfl) ⟨Nat.le_of_ble_eq_true rfl, Nat.le_of_ble_eq_true rfl⟩ ⟨Nat.le_of_ble_eq_true rfl, Nat.le_of_ble_eq_true rfl⟩ ⟨rfl, rfl⟩ (fun w1 hQ => ?_)
        obtain ⟨sh1_3, fo1_3, ba1_3, rfl, hF26⟩ := hQ
        refine j_perm [(a0, .inr (7, [.ref aR, .ref aN, .ref aO, .ref aH, .ref aE, .ref aW, .ref aK, .ref aIm, .ref aKp, .ref aMb])), (aN, .inr (1, [.int (nI (t 0)), .int (nI (t 1)), .int (nI (t 2)), .ref aKd, .ref aFi, .ref aSe, .ref aSb, .ref aLd])), (aKd, .inl (cyI, 9, .inl (nA kd))), (aFi, .inl (cyI, 9, .inl (nA fi))), (aSe, .inl (cyI, 9, .inl (nA se))), (aSb, .inl (cyI, 9, .inl (nA sb))), (aLd, .inl (cyI, 3, .inl (nA ld))), (aO, .inr (4, [.ref aWi, .ref aCu, .ref aCb, .ref aSk])), (aWi, .inl (cyI, 3, .inl (nA wi))), (aCu, .inl (cyI, 9, .inl (nA cu))), (aCb, .inl (cyI, 9, .inl (nA cb))), (aSk, .inl (cyI, 9, .inl (nA sk))), (aW, .inr (6, [.ref aSh, .ref aN, .ref aO, .ref aFo, .ref aBa, .ref aRc, .int (bI gr)])), (aSh, .inl (cyI, 9, .inl (nA sh1_3))), (aFo, .inl (cyZ, 9, .inl (bA fo1_3))), (aBa, .inl (cyZ, 9, .inl (bA ba1_3))), (aK, .inr (5, [.int wf, .int wb, .int wl, .int wq, .int ww, .ref aSl, .ref aN, .ref aW, .ref aTr, .int wg, .int wp, .int wz])), (aTr, .inl (cyI, 7, .inl (nA tr))), (aSl, .inl (cyI, 7, .inl (nA stl)))] [0, 12, 13, 1, 2, 14, 3, 15, 4, 16, 17, 18, 8, 9, 10, 11, 5, 6, 7] rfl rfl (by decide) ?_
        refine j_aload_n (pc' := 30) C dX7_shortest_29 rfl 0 rfl ?_
        refine j_get (v := .ref aK) (pc' := 33) C KX7 0 6 rfl (by decide) fl_X7_58 rfl rfl dX7_shortest_30 rfl ?_
        refine j_iload_n (pc' := 34) C dX7_shortest_33 rfl 1 rfl ?_
        refine j_bipush (v := (-9)) (pc' := 36) C dX7_shortest_34 rfl (by decide +kernel) ?_
        refine j_iload_n (pc' := 37) C dX7_shortest_36 rfl 2 rfl ?_
        refine j_cVv (As := [.int (nI j), .int (-9), .int (nI q)]) (wr := [(a0, .inr (7, [.ref aR, .ref aN, .ref aO, .ref aH, .ref aE, .ref aW, .ref aK, .ref aIm, .ref aKp, .ref aMb])), (aKd, .inl (cyI, 9, .inl (nA kd))), (aSb, .inl (cyI, 9, .inl (nA sb))), (aO, .inr (4, [.ref aWi, .ref aCu, .ref aCb, .ref aSk])), (aWi, .inl (cyI, 3, .inl (nA wi))), (aCu, .inl (cyI, 9, .inl (nA cu))), (aCb, .inl (cyI, 9, .inl (nA cb))), (aSk, .inl (cyI, 9, .inl (nA sk)))]) (pc' := 40) C (c_X5_run_S (aK := aK) (wf := wf) (wb := wb) (wl := wl) (wq := wq) (ww := ww) (aSl := aSl) (aN := aN) (aW := aW) (aTr := aTr) (wg := wg) (wp := wp) (wz := wz) (tr := tr) (aSh := aSh) (aO := aO) (aFo := aFo) (aBa := aBa) (aRc := aRc) (gr := gr) (sh := sh1_3) (fo := fo1_3) (ba := ba1_3) (t := t) (aKd := aKd) (aFi := aFi) (aSe := aSe) (aSb := aSb) (aLd := aLd) (fi := fi) (se := se) (ld := ld) (stl := stl) (s := s) (l := j) (st := q) (hT := by first | assumption | omega) (hfi := by first | assumption | omega) (hse := by first | assumption | omega) (hld := by first | assumption | omega) (hL := hF26) (hl := hj) (hst := hq)) Y_X5_run (ml_X7_160) [16, 17, 12, 13, 14, 15, 1, 3, 4, 6, 18] [0, 2, 5, 7, 8, 9, 10, 11] rfl rfl rfl rfl (by decide) rfl rfl rfl dX7_shortest_37 rfl rfl rfl (Nat.le_of_ble_eq_true rfl) ⟨Nat.le_of_ble_eq_true rfl, Nat.le_of_ble_eq_true rfl⟩ ⟨Nat.le_of_ble_eq_true rfl, Nat.le_of_ble_eq_true rfl⟩ ⟨rfl, rfl⟩ (fun w1 hQ => ?_)
        obtain ⟨fw1_4, stl1_4, tr1_4, rfl, hF37⟩ := hQ
        refine j_perm [(a0, .inr (7, [.ref aR, .ref aN, .ref aO, .ref aH, .ref aE, .ref aW, .ref aK, .ref aIm, .ref aKp, .ref aMb])), (aN, .inr (1, [.int (nI (t 0)), .int (nI (t 1)), .int (nI (t 2)), .ref aKd, .ref aFi, .ref aSe, .ref aSb, .ref aLd])), (aKd, .inl (cyI, 9, .inl (nA kd))), (aFi, .inl (cyI, 9, .inl (nA fi))), (aSe, .inl (cyI, 9, .inl (nA se))), (aSb, .inl (cyI, 9, .inl (nA sb))), (aLd, .inl (cyI, 3, .inl (nA ld))), (aO, .inr (4, [.ref aWi, .ref aCu, .ref aCb, .ref aSk])), (aWi, .inl (cyI, 3, .inl (nA wi))), (aCu, .inl (cyI, 9, .inl (nA cu))), (aCb, .inl (cyI, 9, .inl (nA cb))), (aSk, .inl (cyI, 9, .inl (nA sk))), (aW, .inr (6, [.ref aSh, .ref aN, .ref aO, .ref aFo, .ref aBa, .ref aRc, .int (bI gr)])), (aSh, .inl (cyI, 9, .inl (nA sh1_3))), (aFo, .inl (cyZ, 9, .inl (bA fo1_3))), (aBa, .inl (cyZ, 9, .inl (bA ba1_3))), (aK, .inr (5, [.int (nI ((pAll t s j).length)), .int wb, .int wl, .int wq, .int (nI fw1_4), .ref aSl, .ref aN, .ref aW, .ref aTr, .int (nI (t (39 + j))), .int (-9), .int (nI q)])), (aTr, .inl (cyI, 7, .inl (nA tr1_4))), (aSl, .inl (cyI, 7, .inl (nA stl1_4)))] [0, 14, 1, 15, 16, 2, 17, 3, 4, 5, 6, 7, 10, 11, 12, 13, 8, 9, 18] rfl rfl (by decide) ?_
        refine j_aload_n (pc' := 41) C dX7_shortest_40 rfl 0 rfl ?_
        refine j_get (v := .ref aK) (pc' := 44) C KX7 0 6 rfl (by decide) fl_X7_58 rfl rfl dX7_shortest_41 rfl ?_
        refine j_get (v := .int (nI fw1_4)) (pc' := 47) C KX5 16 4 rfl (by decide) fl_X7_177 rfl rfl dX7_shortest_44 rfl ?_
        refine j_nz_eq (pc' := 50) C 61 dX7_shortest_47 (by decide) rfl (by have := RC9_fw hF37; omega) (fun c47 => ?_) (fun c47 => ?_)
        · have hf7 := RC9_fw hF37
          refine j_bipush (v := (-9)) (pc' := 63) C dX7_shortest_61 rfl (by decide +kernel) ?_
          exact j_iret C hr hk hA dX7_shortest_63 (rfl) (⟨_, _, _, _, _, _, _, _, _, _, _, _, _, rfl, by unfold stQ; rw [if_neg (by rw [hin, hin2, hk1]; decide), nI_clamp (by omega), nI_clamp (by omega)]; rw [RC9_none hF37 c47]⟩)
        · have hf7 := RC9_fw hF37
          refine j_iload_n (pc' := 51) C dX7_shortest_50 rfl 3 rfl ?_
          refine j_aload_n (pc' := 52) C dX7_shortest_51 rfl 0 rfl ?_
          refine j_get (v := .ref aK) (pc' := 55) C KX7 0 6 rfl (by decide) fl_X7_58 rfl rfl dX7_shortest_52 rfl ?_
          refine j_get (v := .int (nI fw1_4)) (pc' := 58) C KX5 16 4 rfl (by decide) fl_X7_177 rfl rfl dX7_shortest_55 rfl ?_
          refine j_ic_lt (pc' := 61) C 64 dX7_shortest_58 (by decide) rfl (fun c58 => ?_) (fun c58 => ?_)
          · refine j_iload_n (pc' := 65) C dX7_shortest_64 rfl 3 rfl ?_
            refine j_if_ge (pc' := 68) C 78 dX7_shortest_65 (by decide) rfl (fun c65 => ?_) (fun c65 => ?_)
            · obtain ⟨pp, hpp, hl9, hg9⟩ := RC9_some hF37 c47
              obtain ⟨kk, hkk, rfl⟩ := nI_of (x := k) (by rw [i_lt, i_0]; rw [i_le, i_0] at c65; omega)
              rw [nI_ltI hkk (by omega)] at c58
              refine j_aload_n (pc' := 79) C dX7_shortest_78 rfl 0 rfl ?_
              refine j_get (v := .ref aK) (pc' := 82) C KX7 0 6 rfl (by decide) fl_X7_58 rfl rfl dX7_shortest_79 rfl ?_
              refine j_get (v := .ref aSl) (pc' := 85) C KX5 16 5 rfl (by decide) fl_X7_180 rfl rfl dX7_shortest_82 rfl ?_
              refine j_iload_n (pc' := 86) C dX7_shortest_85 rfl 3 rfl ?_
              refine j_nald (pc' := 87) C 18 rfl (by omega) (by decide) dX7_shortest_86 rfl ?_
              
              exact j_iret C hr hk hA dX7_shortest_87 (rfl) (⟨_, _, _, _, _, _, _, _, _, _, _, _, _, rfl, by unfold stQ; rw [if_neg (by rw [hin, hin2, hk1]; decide), nI_clamp (by omega), nI_clamp (by omega)]; rw [hpp]; dsimp only; rw [if_neg (by rw [nI_toInt hkk]; omega), nI_clamp hkk, hg9 kk (by omega)]⟩)
            · refine j_aload_n (pc' := 69) C dX7_shortest_68 rfl 0 rfl ?_
              refine j_get (v := .ref aK) (pc' := 72) C KX7 0 6 rfl (by decide) fl_X7_58 rfl rfl dX7_shortest_69 rfl ?_
              refine j_get (v := .int (nI fw1_4)) (pc' := 75) C KX5 16 4 rfl (by decide) fl_X7_177 rfl rfl dX7_shortest_72 rfl ?_
              refine j_goto C 87 dX7_shortest_75 (by decide) ?_
              obtain ⟨pp, hpp, hl9, hg9⟩ := RC9_some hF37 c47
              exact j_iret C hr hk hA dX7_shortest_87 (rfl) (⟨_, _, _, _, _, _, _, _, _, _, _, _, _, rfl, by unfold stQ; rw [if_neg (by rw [hin, hin2, hk1]; decide), nI_clamp (by omega), nI_clamp (by omega)]; rw [hpp]; dsimp only; rw [if_pos (by rw [i_le, i_0] at c65; omega), hl9]⟩)
          · refine j_bipush (v := (-9)) (pc' := 63) C dX7_shortest_61 rfl (by decide +kernel) ?_
            obtain ⟨pp, hpp, hl9, hg9⟩ := RC9_some hF37 c47
            exact j_iret C hr hk hA dX7_shortest_63 (rfl) (⟨_, _, _, _, _, _, _, _, _, _, _, _, _, rfl, by unfold stQ; rw [if_neg (by rw [hin, hin2, hk1]; decide), nI_clamp (by omega), nI_clamp (by omega)]; rw [hpp]; dsimp only; rw [if_neg (by rw [i_lt, nI_toInt (by omega)] at c58; omega)]; exact (st_out (by rw [i_lt, nI_toInt (by omega)] at c58; omega)).symm⟩)
      · refine j_iconst (v := (-1)) (pc' := 21) C dX7_shortest_20 rfl (by decide +kernel) ?_
        exact j_iret C hr hk hA dX7_shortest_21 (rfl) (⟨_, _, _, _, _, _, _, _, _, _, _, _, _, rfl, by unfold stQ; rw [if_pos (by rw [decide_eq_false (by rw [i_le, i_m1] at c17; omega), Bool.and_false])]⟩)

set_option maxHeartbeats 4000000 in
set_option maxRecDepth 100000 in
theorem c_X7_sees {lch : Launch} {dG : va_G} {cyI cyZ cyO : ClassId} (a0 : Nat) (aR : Nat) (aN : Nat) (aO : Nat) (aH : Nat) (aE : Nat) (aW : Nat) (aK : Nat) (aIm : Nat) (aKp : Nat) (aMb : Nat) (t : Nat → Nat) (aKd : Nat) (aFi : Nat) (aSe : Nat) (aSb : Nat) (aLd : Nat) (sm : Nat) (aEl : Nat) (aEs : Nat) (aEf : Nat) (el : Nat → Nat) (es : Nat → Nat) (ef : Nat → Nat) (l : Int32) (v : Int32) (f : Int32) (hT : WT t) (hn : sm ≤ 6) : Ki lch yX7_sees cX7_sees 4 .int (rmk 2) dG (cyI, cyZ, cyO) [.ref a0, .int l, .int v, .int f] [(a0, .inr (7, [.ref aR, .ref aN, .ref aO, .ref aH, .ref aE, .ref aW, .ref aK, .ref aIm, .ref aKp, .ref aMb])), (aN, .inr (1, [.int (nI (t 0)), .int (nI (t 1)), .int (nI (t 2)), .ref aKd, .ref aFi, .ref aSe, .ref aSb, .ref aLd])), (aE, .inr (3, [.int (nI sm), .ref aEl, .ref aEs, .ref aEf])), (aEl, .inl (cyI, 6, .inl (nA el))), (aEs, .inl (cyI, 6, .inl (nA es))), (aEf, .inl (cyI, 6, .inl (nA ef)))] (fun r w1 => ∃ (el1 : Nat → Nat), ∃ (es1 : Nat → Nat), ∃ (ef1 : Nat → Nat), ∃ (sm1 : Nat), w1 = [(a0, .inr (7, [.ref aR, .ref aN, .ref aO, .ref aH, .ref aE, .ref aW, .ref aK, .ref aIm, .ref aKp, .ref aMb])), (aN, .inr (1, [.int (nI (t 0)), .int (nI (t 1)), .int (nI (t 2)), .ref aKd, .ref aFi, .ref aSe, .ref aSb, .ref aLd])), (aE, .inr (3, [.int (nI sm1), .ref aEl, .ref aEs, .ref aEf])), (aEl, .inl (cyI, 6, .inl (nA el1))), (aEs, .inl (cyI, 6, .inl (nA es1))), (aEf, .inl (cyI, 6, .inl (nA ef1)))] ∧ (r, el1, es1, ef1, sm1) = seQ t el es ef sm l v f) := by
  have h1 := hT.n
  refine Ki.of (own := RX7) rfl (by decide) (Nat.le_of_ble_eq_true rfl) (fun p0 e0 s0 m0 ar0 be0 me0 cd0 A0 C hr hk hnm hA => ?_)
  refine j_lsub [(0, .ref a0), (1, .int l), (2, .int v), (3, .int f)] [0, 1, 2, 3] rfl ?_
  refine j_aload_n (pc' := 1) C dX7_sees_0 rfl 0 rfl ?_
  refine j_iload_n (pc' := 2) C dX7_sees_1 rfl 1 rfl ?_
  refine j_cVi (As := [.int l]) (wr := [(aE, .inr (3, [.int (nI sm), .ref aEl, .ref aEs, .ref aEf])), (aEl, .inl (cyI, 6, .inl (nA el))), (aEs, .inl (cyI, 6, .inl (nA es))), (aEf, .inl (cyI, 6, .inl (nA ef)))]) (pc' := 5) C (c_X7_isLoad (a0 := a0) (aR := aR) (aN := aN) (aO := aO) (aH := aH) (aE := aE) (aW := aW) (aK := aK) (aIm := aIm) (aKp := aKp) (aMb := aMb) (t := t) (aKd := aKd) (aFi := aFi) (aSe := aSe) (aSb := aSb) (aLd := aLd) (v := l) (hT := by first | assumption | omega)) Y_X7_isLoad (ml_X7_129) [0, 1] [2, 3, 4, 5] rfl rfl rfl rfl (by decide) rfl rfl rfl dX7_sees_2 rfl rfl rfl (Nat.le_of_ble_eq_true rfl) ⟨Nat.le_of_ble_eq_true rfl, Nat.le_of_ble_eq_true rfl⟩ ⟨Nat.le_of_ble_eq_true rfl, Nat.le_of_ble_eq_true rfl⟩ ⟨rfl, rfl⟩ (fun r1 w1 hQ => ?_)
  obtain ⟨rfl, rfl⟩ := hQ
  refine j_perm [(a0, .inr (7, [.ref aR, .ref aN, .ref aO, .ref aH, .ref aE, .ref aW, .ref aK, .ref aIm, .ref aKp, .ref aMb])), (aN, .inr (1, [.int (nI (t 0)), .int (nI (t 1)), .int (nI (t 2)), .ref aKd, .ref aFi, .ref aSe, .ref aSb, .ref aLd])), (aE, .inr (3, [.int (nI sm), .ref aEl, .ref aEs, .ref aEf])), (aEl, .inl (cyI, 6, .inl (nA el))), (aEs, .inl (cyI, 6, .inl (nA es))), (aEf, .inl (cyI, 6, .inl (nA ef)))] [4, 5, 0, 1, 2, 3] rfl rfl (by decide) ?_
  refine j_b_eq (pc' := 8) C 24 dX7_sees_5 (by decide) rfl (fun c5 => ?_) (fun c5 => ?_)
  · refine j_iconst (v := (-1)) (pc' := 25) C dX7_sees_24 rfl (by decide +kernel) ?_
    exact j_iret C hr hk hA dX7_sees_25 (rfl) (⟨_, _, _, _, rfl, by unfold seQ; rw [if_pos (by rw [c5]; rfl)]⟩)
  · obtain ⟨j, hj, rfl⟩ := inR_t (c5) (by omega)
    have hin := inR_n (j := j) (n := t 2) hj (by omega)
    refine j_iload_n (pc' := 9) C dX7_sees_8 rfl 2 rfl ?_
    refine j_cSi (As := [.int v]) (wr := [(a0, .inr (7, [.ref aR, .ref aN, .ref aO, .ref aH, .ref aE, .ref aW, .ref aK, .ref aIm, .ref aKp, .ref aMb])), (aN, .inr (1, [.int (nI (t 0)), .int (nI (t 1)), .int (nI (t 2)), .ref aKd, .ref aFi, .ref aSe, .ref aSb, .ref aLd])), (aE, .inr (3, [.int (nI sm), .ref aEl, .ref aEs, .ref aEf])), (aEl, .inl (cyI, 6, .inl (nA el))), (aEs, .inl (cyI, 6, .inl (nA es))), (aEf, .inl (cyI, 6, .inl (nA ef)))]) (pc' := 12) C (c_X7_isState (v := v) ) Y_X7_isState (ml_X7_174) [] [0, 1, 2, 3, 4, 5] rfl rfl rfl rfl (by decide) dX7_sees_9 rfl rfl rfl (Nat.le_of_ble_eq_true rfl) ⟨Nat.le_of_ble_eq_true rfl, Nat.le_of_ble_eq_true rfl⟩ ⟨Nat.le_of_ble_eq_true rfl, Nat.le_of_ble_eq_true rfl⟩ ⟨rfl, rfl⟩ (fun r2 w1 hQ => ?_)
    obtain ⟨rfl, rfl⟩ := hQ
    refine j_perm [(a0, .inr (7, [.ref aR, .ref aN, .ref aO, .ref aH, .ref aE, .ref aW, .ref aK, .ref aIm, .ref aKp, .ref aMb])), (aN, .inr (1, [.int (nI (t 0)), .int (nI (t 1)), .int (nI (t 2)), .ref aKd, .ref aFi, .ref aSe, .ref aSb, .ref aLd])), (aE, .inr (3, [.int (nI sm), .ref aEl, .ref aEs, .ref aEf])), (aEl, .inl (cyI, 6, .inl (nA el))), (aEs, .inl (cyI, 6, .inl (nA es))), (aEf, .inl (cyI, 6, .inl (nA ef)))] [0, 1, 2, 3, 4, 5] rfl rfl (by decide) ?_
    refine j_b_eq (pc' := 15) C 24 dX7_sees_12 (by decide) rfl (fun c12 => ?_) (fun c12 => ?_)
    · refine j_iconst (v := (-1)) (pc' := 25) C dX7_sees_24 rfl (by decide +kernel) ?_
      exact j_iret C hr hk hA dX7_sees_25 (rfl) (⟨_, _, _, _, rfl, by unfold seQ; rw [if_pos (by rw [c12, Bool.and_false]; rfl)]⟩)
    · obtain ⟨q, hq, rfl⟩ := inR_t (c12) (by decide)
      have hin2 := inR_n (j := q) (n := 16) hq (by decide)
      refine j_iload_n (pc' := 16) C dX7_sees_15 rfl 3 rfl ?_
      refine j_if_lt (pc' := 19) C 24 dX7_sees_16 (by decide) rfl (fun c16 => ?_) (fun c16 => ?_)
      · refine j_iconst (v := (-1)) (pc' := 25) C dX7_sees_24 rfl (by decide +kernel) ?_
        exact j_iret C hr hk hA dX7_sees_25 (rfl) (⟨_, _, _, _, rfl, by unfold seQ; rw [if_pos (by rw [in_lo c16, Bool.and_false])]⟩)
      · refine j_iload_n (pc' := 20) C dX7_sees_19 rfl 3 rfl ?_
        refine j_iconst (v := (nI 1)) (pc' := 21) C dX7_sees_20 rfl (by decide +kernel) ?_
        refine j_ic_le (pc' := 24) C 26 dX7_sees_21 (by decide) rfl (fun c21 => ?_) (fun c21 => ?_)
        · obtain ⟨y, hy, rfl⟩ := inR_t (in_ok2 (a := 1) (by decide) c16 c21) (by decide)
          have hin3 := inR_n (j := y) (n := 2) hy (by decide)
          refine j_aload_n (pc' := 27) C dX7_sees_26 rfl 0 rfl ?_
          refine j_get (v := .ref aE) (pc' := 30) C KX7 0 4 rfl (by decide) fl_X7_40 rfl rfl dX7_sees_27 rfl ?_
          refine j_iload_n (pc' := 31) C dX7_sees_30 rfl 1 rfl ?_
          refine j_iload_n (pc' := 32) C dX7_sees_31 rfl 2 rfl ?_
          refine j_iload_n (pc' := 33) C dX7_sees_32 rfl 3 rfl ?_
          refine j_cVi (As := [.int (nI j), .int (nI q), .int (nI y)]) (wr := [(a0, .inr (7, [.ref aR, .ref aN, .ref aO, .ref aH, .ref aE, .ref aW, .ref aK, .ref aIm, .ref aKp, .ref aMb])), (aN, .inr (1, [.int (nI (t 0)), .int (nI (t 1)), .int (nI (t 2)), .ref aKd, .ref aFi, .ref aSe, .ref aSb, .ref aLd]))]) (pc' := 36) C (c_X3_append (aE := aE) (sm := sm) (aEl := aEl) (aEs := aEs) (aEf := aEf) (el := el) (es := es) (ef := ef) (l := j) (st := q) (f := y) (hn := by first | assumption | omega)) Y_X3_append (ml_X7_212) [2, 3, 4, 5] [0, 1] rfl rfl rfl rfl (by decide) rfl rfl rfl dX7_sees_33 rfl rfl rfl (Nat.le_of_ble_eq_true rfl) ⟨Nat.le_of_ble_eq_true rfl, Nat.le_of_ble_eq_true rfl⟩ ⟨Nat.le_of_ble_eq_true rfl, Nat.le_of_ble_eq_true rfl⟩ ⟨rfl, rfl⟩ (fun r3 w1 hQ => ?_)
          obtain ⟨el1_3, es1_3, ef1_3, n1_3, b_3, rfl, rfl, hF33⟩ := hQ
          refine j_perm [(a0, .inr (7, [.ref aR, .ref aN, .ref aO, .ref aH, .ref aE, .ref aW, .ref aK, .ref aIm, .ref aKp, .ref aMb])), (aN, .inr (1, [.int (nI (t 0)), .int (nI (t 1)), .int (nI (t 2)), .ref aKd, .ref aFi, .ref aSe, .ref aSb, .ref aLd])), (aE, .inr (3, [.int (nI n1_3), .ref aEl, .ref aEs, .ref aEf])), (aEl, .inl (cyI, 6, .inl (nA el1_3))), (aEs, .inl (cyI, 6, .inl (nA es1_3))), (aEf, .inl (cyI, 6, .inl (nA ef1_3)))] [0, 1, 2, 3, 4, 5] rfl rfl (by decide) ?_
          refine j_b_eq (pc' := 39) C 49 dX7_sees_36 (by decide) rfl (fun c36 => ?_) (fun c36 => ?_)
          · refine j_bipush (v := (-3)) (pc' := 51) C dX7_sees_49 rfl (by decide +kernel) ?_
            exact j_iret C hr hk hA dX7_sees_51 (rfl) (⟨_, _, _, _, rfl, by
              rcases hF33 with ⟨q1, q2, q3, q4, q5, q6⟩ | ⟨q1, q2, q3, q4, q5, q6⟩
              · first | (rw [c36] at q1; cases q1; done) | (unfold seQ; rw [if_neg (by rw [hin, hin2, hin3]; decide), if_pos q2, q3, q4, q5, q6])
              · first | (rw [c36] at q1; cases q1; done) | (unfold seQ; rw [if_neg (by rw [hin, hin2, hin3]; decide), if_neg (by omega), q3, q4, q5, q6, nI_clamp (by omega), nI_clamp (by omega), nI_clamp (by omega)])⟩)
          · refine j_aload_n (pc' := 40) C dX7_sees_39 rfl 0 rfl ?_
            refine j_get (v := .ref aE) (pc' := 43) C KX7 0 4 rfl (by decide) fl_X7_40 rfl rfl dX7_sees_40 rfl ?_
            refine j_get (v := .int (nI n1_3)) (pc' := 46) C KX3 2 0 rfl (by decide) fl_X7_99 rfl rfl dX7_sees_43 rfl ?_
            refine j_goto C 51 dX7_sees_46 (by decide) ?_
            exact j_iret C hr hk hA dX7_sees_51 (rfl) (⟨_, _, _, _, rfl, by
              rcases hF33 with ⟨q1, q2, q3, q4, q5, q6⟩ | ⟨q1, q2, q3, q4, q5, q6⟩
              · first | (rw [c36] at q1; cases q1; done) | (unfold seQ; rw [if_neg (by rw [hin, hin2, hin3]; decide), if_pos q2, q3, q4, q5, q6])
              · first | (rw [c36] at q1; cases q1; done) | (unfold seQ; rw [if_neg (by rw [hin, hin2, hin3]; decide), if_neg (by omega), q3, q4, q5, q6, nI_clamp (by omega), nI_clamp (by omega), nI_clamp (by omega)])⟩)
        · refine j_iconst (v := (-1)) (pc' := 25) C dX7_sees_24 rfl (by decide +kernel) ?_
          exact j_iret C hr hk hA dX7_sees_25 (rfl) (⟨_, _, _, _, rfl, by unfold seQ; rw [if_pos (by rw [in_hi2 (a := 1) (by decide) c21, Bool.and_false])]⟩)

set_option maxHeartbeats 4000000 in
set_option maxRecDepth 100000 in
theorem c_X7_forget {lch : Launch} {dG : va_G} {cyI cyZ cyO : ClassId} (a0 : Nat) (aR : Nat) (aN : Nat) (aO : Nat) (aH : Nat) (aE : Nat) (aW : Nat) (aK : Nat) (aIm : Nat) (aKp : Nat) (aMb : Nat) (sm : Nat) (aEl : Nat) (aEs : Nat) (aEf : Nat)  : Ki lch yX7_forget cX7_forget 2 .int (rmk 1) dG (cyI, cyZ, cyO) [.ref a0] [(a0, .inr (7, [.ref aR, .ref aN, .ref aO, .ref aH, .ref aE, .ref aW, .ref aK, .ref aIm, .ref aKp, .ref aMb])), (aE, .inr (3, [.int (nI sm), .ref aEl, .ref aEs, .ref aEf]))] (fun r w1 => w1 = [(a0, .inr (7, [.ref aR, .ref aN, .ref aO, .ref aH, .ref aE, .ref aW, .ref aK, .ref aIm, .ref aKp, .ref aMb])), (aE, .inr (3, [.int (nI 0), .ref aEl, .ref aEs, .ref aEf]))] ∧ r = (nI sm)) := by
  refine Ki.of (own := RX7) rfl (by decide) (Nat.le_of_ble_eq_true rfl) (fun p0 e0 s0 m0 ar0 be0 me0 cd0 A0 C hr hk hnm hA => ?_)
  refine j_lsub [(0, .ref a0)] [0] rfl ?_
  refine j_aload_n (pc' := 1) C dX7_forget_0 rfl 0 rfl ?_
  refine j_get (v := .ref aE) (pc' := 4) C KX7 0 4 rfl (by decide) fl_X7_40 rfl rfl dX7_forget_1 rfl ?_
  refine j_get (v := .int (nI sm)) (pc' := 7) C KX3 1 0 rfl (by decide) fl_X7_99 rfl rfl dX7_forget_4 rfl ?_
  refine j_istore_n (pc' := 8) C [(1, .int (nI sm)), (0, .ref a0)] dX7_forget_7 rfl (by decide) rfl ?_
  refine j_aload_n (pc' := 9) C dX7_forget_8 rfl 1 rfl ?_
  refine j_get (v := .ref aE) (pc' := 12) C KX7 0 4 rfl (by decide) fl_X7_40 rfl rfl dX7_forget_9 rfl ?_
  refine j_iconst (v := (nI 0)) (pc' := 13) C dX7_forget_12 rfl (by decide +kernel) ?_
  refine j_put (pc' := 16) C [(a0, .inr (7, [.ref aR, .ref aN, .ref aO, .ref aH, .ref aE, .ref aW, .ref aK, .ref aIm, .ref aKp, .ref aMb])), (aE, .inr (3, [.int (nI 0), .ref aEl, .ref aEs, .ref aEf]))] KX3 1 0 rfl (by decide) fl_X7_99 rfl rfl rfl rfl (Nat.le_of_ble_eq_true rfl) dX7_forget_13 rfl rfl ?_
  refine j_iload_n (pc' := 17) C dX7_forget_16 rfl 0 rfl ?_
  exact j_iret C hr hk hA dX7_forget_17 (rfl) (⟨rfl, rfl⟩)

set_option maxHeartbeats 4000000 in
set_option maxRecDepth 100000 in
theorem c_X7_loadsThatSneak {lch : Launch} {dG : va_G} {cyI cyZ cyO : ClassId} (a0 : Nat) (aR : Nat) (aN : Nat) (aO : Nat) (aH : Nat) (aE : Nat) (aW : Nat) (aK : Nat) (aIm : Nat) (aKp : Nat) (aMb : Nat) (t : Nat → Nat) (aKd : Nat) (aFi : Nat) (aSe : Nat) (aSb : Nat) (aLd : Nat) (kd : Nat → Nat) (fi : Nat → Nat) (se : Nat → Nat) (sb : Nat → Nat) (ld : Nat → Nat) (aWi : Nat) (aCu : Nat) (aCb : Nat) (aSk : Nat) (wi : Nat → Nat) (cu : Nat → Nat) (cb : Nat → Nat) (sk : Nat → Nat) (aSh : Nat) (aFo : Nat) (aBa : Nat) (aRc : Nat) (gr : Bool) (sh : Nat → Nat) (fo : Nat → Bool) (ba : Nat → Bool) (rc : Nat → Nat) (s : Nat → Nat) (hT : WT t) (hS : WS s) (hN : RN t kd fi se sb ld) (hR : RS s wi cu cb sk) : Ki lch yX7_loadsThatSneak cX7_loadsThatSneak 3 .int (rmk 6) dG (cyI, cyZ, cyO) [.ref a0] [(a0, .inr (7, [.ref aR, .ref aN, .ref aO, .ref aH, .ref aE, .ref aW, .ref aK, .ref aIm, .ref aKp, .ref aMb])), (aN, .inr (1, [.int (nI (t 0)), .int (nI (t 1)), .int (nI (t 2)), .ref aKd, .ref aFi, .ref aSe, .ref aSb, .ref aLd])), (aKd, .inl (cyI, 9, .inl (nA kd))), (aFi, .inl (cyI, 9, .inl (nA fi))), (aSe, .inl (cyI, 9, .inl (nA se))), (aSb, .inl (cyI, 9, .inl (nA sb))), (aLd, .inl (cyI, 3, .inl (nA ld))), (aO, .inr (4, [.ref aWi, .ref aCu, .ref aCb, .ref aSk])), (aWi, .inl (cyI, 3, .inl (nA wi))), (aCu, .inl (cyI, 9, .inl (nA cu))), (aCb, .inl (cyI, 9, .inl (nA cb))), (aSk, .inl (cyI, 9, .inl (nA sk))), (aW, .inr (6, [.ref aSh, .ref aN, .ref aO, .ref aFo, .ref aBa, .ref aRc, .int (bI gr)])), (aSh, .inl (cyI, 9, .inl (nA sh))), (aFo, .inl (cyZ, 9, .inl (bA fo))), (aBa, .inl (cyZ, 9, .inl (bA ba))), (aRc, .inl (cyI, 7, .inl (nA rc)))] (fun r w1 => ∃ (sh1 : Nat → Nat), ∃ (fo1 : Nat → Bool), ∃ (ba1 : Nat → Bool), ∃ (rc1 : Nat → Nat), ∃ (g1 : Bool), w1 = [(a0, .inr (7, [.ref aR, .ref aN, .ref aO, .ref aH, .ref aE, .ref aW, .ref aK, .ref aIm, .ref aKp, .ref aMb])), (aN, .inr (1, [.int (nI (t 0)), .int (nI (t 1)), .int (nI (t 2)), .ref aKd, .ref aFi, .ref aSe, .ref aSb, .ref aLd])), (aKd, .inl (cyI, 9, .inl (nA kd))), (aFi, .inl (cyI, 9, .inl (nA fi))), (aSe, .inl (cyI, 9, .inl (nA se))), (aSb, .inl (cyI, 9, .inl (nA sb))), (aLd, .inl (cyI, 3, .inl (nA ld))), (aO, .inr (4, [.ref aWi, .ref aCu, .ref aCb, .ref aSk])), (aWi, .inl (cyI, 3, .inl (nA wi))), (aCu, .inl (cyI, 9, .inl (nA cu))), (aCb, .inl (cyI, 9, .inl (nA cb))), (aSk, .inl (cyI, 9, .inl (nA sk))), (aW, .inr (6, [.ref aSh, .ref aN, .ref aO, .ref aFo, .ref aBa, .ref aRc, .int (bI g1)])), (aSh, .inl (cyI, 9, .inl (nA sh1))), (aFo, .inl (cyZ, 9, .inl (bA fo1))), (aBa, .inl (cyZ, 9, .inl (bA ba1))), (aRc, .inl (cyI, 7, .inl (nA rc1)))] ∧ r = (nI (cnB (fun l => decide (anN (fedN t s l) (s l) ≠ 0)) (t 2)))) := by
  have h1 := hT.n
  have hkd : ∀ c, c < t 1 → kd c = t (3 + c) := fun c hc => (hN.1 c hc).1
  have hfi : ∀ c, c < t 1 → fi c = t (12 + c) := fun c hc => (hN.1 c hc).2.1
  have hse : ∀ c, c < t 1 → se c = t (21 + c) := fun c hc => (hN.1 c hc).2.2.1
  have hsb : ∀ c, c < t 1 → sb c = t (30 + c) := fun c hc => (hN.1 c hc).2.2.2
  have hld : ∀ l, l < t 2 → ld l = t (39 + l) := hN.2
  have hwi : ∀ l, l < 3 → wi l = s l := hR.1
  have hcu : ∀ c, c < 9 → cu c = s (3 + c) := fun c hc => (hR.2 c hc).1
  have hcb : ∀ c, c < 9 → cb c = s (12 + c) := fun c hc => (hR.2 c hc).2.1
  have hsk : ∀ c, c < 9 → sk c = s (21 + c) := fun c hc => (hR.2 c hc).2.2
  refine Ki.of (own := RX7) rfl (by decide) (Nat.le_of_ble_eq_true rfl) (fun p0 e0 s0 m0 ar0 be0 me0 cd0 A0 C hr hk hnm hA => ?_)
  refine j_lsub [(0, .ref a0)] [0] rfl ?_
  refine j_iconst (v := (nI 0)) (pc' := 1) C dX7_loadsThatSneak_0 rfl (by decide +kernel) ?_
  refine j_istore_n (pc' := 2) C [(1, .int (nI 0)), (0, .ref a0)] dX7_loadsThatSneak_1 rfl (by decide) rfl ?_
  refine j_iconst (v := (nI 0)) (pc' := 3) C dX7_loadsThatSneak_2 rfl (by decide +kernel) ?_
  refine j_istore_n (pc' := 4) C [(2, .int (nI 0)), (1, .int (nI 0)), (0, .ref a0)] dX7_loadsThatSneak_3 rfl (by decide) rfl ?_
  refine j_lsub [(0, .ref a0), (1, .int (nI 0)), (2, .int (nI 0))] [2, 1, 0] rfl ?_
  refine j_loop7 (fun (i : Nat) (z : Nat) (sh2 : Nat → Nat) (fo2 : Nat → Bool) (ba2 : Nat → Bool) (rc2 : Nat → Nat) (g2 : Bool) => [(a0, .inr (7, [.ref aR, .ref aN, .ref aO, .ref aH, .ref aE, .ref aW, .ref aK, .ref aIm, .ref aKp, .ref aMb])), (aN, .inr (1, [.int (nI (t 0)), .int (nI (t 1)), .int (nI (t 2)), .ref aKd, .ref aFi, .ref aSe, .ref aSb, .ref aLd])), (aKd, .inl (cyI, 9, .inl (nA kd))), (aFi, .inl (cyI, 9, .inl (nA fi))), (aSe, .inl (cyI, 9, .inl (nA se))), (aSb, .inl (cyI, 9, .inl (nA sb))), (aLd, .inl (cyI, 3, .inl (nA ld))), (aO, .inr (4, [.ref aWi, .ref aCu, .ref aCb, .ref aSk])), (aWi, .inl (cyI, 3, .inl (nA wi))), (aCu, .inl (cyI, 9, .inl (nA cu))), (aCb, .inl (cyI, 9, .inl (nA cb))), (aSk, .inl (cyI, 9, .inl (nA sk))), (aW, .inr (6, [.ref aSh, .ref aN, .ref aO, .ref aFo, .ref aBa, .ref aRc, .int (bI g2)])), (aSh, .inl (cyI, 9, .inl (nA sh2))), (aFo, .inl (cyZ, 9, .inl (bA fo2))), (aBa, .inl (cyZ, 9, .inl (bA ba2))), (aRc, .inl (cyI, 7, .inl (nA rc2)))]) (fun (i : Nat) (z : Nat) (sh2 : Nat → Nat) (fo2 : Nat → Bool) (ba2 : Nat → Bool) (rc2 : Nat → Nat) (g2 : Bool) => [(0, .ref a0), (1, .int (nI z)), (2, .int (nI i))]) (fun (i : Nat) (z : Nat) (sh2 : Nat → Nat) (fo2 : Nat → Bool) (ba2 : Nat → Bool) (rc2 : Nat → Nat) (g2 : Bool) => []) (fun (i : Nat) (z : Nat) (sh2 : Nat → Nat) (fo2 : Nat → Bool) (ba2 : Nat → Bool) (rc2 : Nat → Nat) (g2 : Bool) => i ≤ t 2 ∧ z = cnB (fun l => decide (anN (fedN t s l) (s l) ≠ 0)) i) (fun (i : Nat) (z : Nat) (sh2 : Nat → Nat) (fo2 : Nat → Bool) (ba2 : Nat → Bool) (rc2 : Nat → Nat) (g2 : Bool) => t 2 - i) ?_ 0 0 sh fo ba rc gr ?_
  · intro i z sh2 fo2 ba2 rc2 g2 hI4 ih4
    obtain ⟨hi, hz⟩ := hI4
    refine j_iload_n (pc' := 5) C dX7_loadsThatSneak_4 rfl 2 rfl ?_
    refine j_aload_n (pc' := 6) C dX7_loadsThatSneak_5 rfl 0 rfl ?_
    refine j_get (v := .ref aN) (pc' := 9) C KX7 0 1 rfl (by decide) fl_X7_19 rfl rfl dX7_loadsThatSneak_6 rfl ?_
    refine j_get (v := .int (nI (t 2))) (pc' := 12) C KX1 1 2 rfl (by decide) fl_X7_233 rfl rfl dX7_loadsThatSneak_9 rfl ?_
    refine j_nc_ge (pc' := 15) C 44 dX7_loadsThatSneak_12 (by decide) rfl (by omega) (by omega) (fun c12 => ?_) (fun c12 => ?_)
    · refine j_iload_n (pc' := 45) C dX7_loadsThatSneak_44 rfl 1 rfl ?_
      exact j_iret C hr hk hA dX7_loadsThatSneak_45 (rfl) (⟨_, _, _, _, _, rfl, by rw [hz, show i = t 2 by omega]⟩)
    · have h5 := hS.1 i (by omega)
      have h6 := hwi i (by omega)
      refine j_aload_n (pc' := 16) C dX7_loadsThatSneak_15 rfl 0 rfl ?_
      refine j_iload_n (pc' := 17) C dX7_loadsThatSneak_16 rfl 2 rfl ?_
      refine j_cVi (As := [.int (nI i)]) (wr := []) (pc' := 20) C (c_X7_fedNow (a0 := a0) (aR := aR) (aN := aN) (aO := aO) (aH := aH) (aE := aE) (aW := aW) (aK := aK) (aIm := aIm) (aKp := aKp) (aMb := aMb) (t := t) (aKd := aKd) (aFi := aFi) (aSe := aSe) (aSb := aSb) (aLd := aLd) (kd := kd) (fi := fi) (se := se) (sb := sb) (ld := ld) (aWi := aWi) (aCu := aCu) (aCb := aCb) (aSk := aSk) (wi := wi) (cu := cu) (cb := cb) (sk := sk) (aSh := aSh) (aFo := aFo) (aBa := aBa) (aRc := aRc) (gr := g2) (sh := sh2) (fo := fo2) (ba := ba2) (rc := rc2) (s := s) (l := i) (hT := by first | assumption | omega) (hS := by first | assumption | omega) (hN := by first | assumption | omega) (hR := by first | assumption | omega) (hl := c12)) Y_X7_fedNow (ml_X7_135) [0, 1, 2, 3, 4, 5, 6, 7, 8, 9, 10, 11, 12, 13, 14, 15, 16] [] rfl rfl rfl rfl (by decide) rfl rfl rfl dX7_loadsThatSneak_17 rfl rfl rfl (Nat.le_of_ble_eq_true rfl) ⟨Nat.le_of_ble_eq_true rfl, Nat.le_of_ble_eq_true rfl⟩ ⟨Nat.le_of_ble_eq_true rfl, Nat.le_of_ble_eq_true rfl⟩ ⟨rfl, rfl⟩ (fun r1 w1 hQ => ?_)
      obtain ⟨sh1_1, fo1_1, ba1_1, rc1_1, g1_1, rfl, rfl⟩ := hQ
      refine j_aload_n (pc' := 21) C dX7_loadsThatSneak_20 rfl 0 rfl ?_
      refine j_get (v := .ref aO) (pc' := 24) C KX7 0 2 rfl (by decide) fl_X7_26 rfl rfl dX7_loadsThatSneak_21 rfl ?_
      refine j_get (v := .ref aWi) (pc' := 27) C KX4 7 0 rfl (by decide) fl_X7_139 rfl rfl dX7_loadsThatSneak_24 rfl ?_
      refine j_iload_n (pc' := 28) C dX7_loadsThatSneak_27 rfl 2 rfl ?_
      refine j_nald (pc' := 29) C 8 rfl (by omega) (by decide) dX7_loadsThatSneak_28 rfl ?_
      refine j_iconst (v := (nI 4294967295)) (pc' := 30) C dX7_loadsThatSneak_29 rfl (by decide +kernel) ?_
      refine j_ixor (v := (nI ((wi i) ^^^ 4294967295))) (pc' := 31) C dX7_loadsThatSneak_30 rfl (fb_xorI (wi i) 4294967295) ?_
      refine j_iand (v := (nI ((fedN t s i) &&& ((wi i) ^^^ 4294967295)))) (pc' := 32) C dX7_loadsThatSneak_31 rfl (fa_and (fedN t s i) ((wi i) ^^^ 4294967295)) ?_
      refine j_nz_eq (pc' := 35) C 38 dX7_loadsThatSneak_32 (by decide) rfl (by have := fedN_lt t s i; have := h5; exact Nat.lt_of_le_of_lt Nat.and_le_left (by omega)) (fun c32 => ?_) (fun c32 => ?_)
      · refine j_iinc (v := (nI (i + 1))) (pc' := 41) C [(2, .int (nI (i + 1))), (0, .ref a0), (1, .int (nI z))] dX7_loadsThatSneak_38 rfl 2 rfl (inc_n i 1) (by decide) rfl ?_
        refine j_goto C 4 dX7_loadsThatSneak_41 (by decide) ?_
        refine j_lsub [(0, .ref a0), (1, .int (nI z)), (2, .int (nI (i + 1)))] [1, 2, 0] rfl ?_
        exact ih4 (i + 1) z sh1_1 fo1_1 ba1_1 rc1_1 g1_1 (⟨by omega, by rw [hz, cnB]; rw [decide_eq_false (fun q9 => q9 (by unfold anN; rw [← hwi i (by omega)]; exact c32))]; rfl⟩) (by omega)
      · refine j_iinc (v := (nI (z + 1))) (pc' := 38) C [(1, .int (nI (z + 1))), (0, .ref a0), (2, .int (nI i))] dX7_loadsThatSneak_35 rfl 1 rfl (inc_n z 1) (by decide) rfl ?_
        refine j_iinc (v := (nI (i + 1))) (pc' := 41) C [(2, .int (nI (i + 1))), (1, .int (nI (z + 1))), (0, .ref a0)] dX7_loadsThatSneak_38 rfl 2 rfl (inc_n i 1) (by decide) rfl ?_
        refine j_goto C 4 dX7_loadsThatSneak_41 (by decide) ?_
        refine j_lsub [(0, .ref a0), (1, .int (nI (z + 1))), (2, .int (nI (i + 1)))] [2, 1, 0] rfl ?_
        exact ih4 (i + 1) (z + 1) sh1_1 fo1_1 ba1_1 rc1_1 g1_1 (⟨by omega, by rw [hz, cnB]; rw [decide_eq_true (by unfold anN; rw [← hwi i (by omega)]; exact c32)]; rfl⟩) (by omega)
  · exact ⟨Nat.zero_le _, rfl⟩

set_option maxHeartbeats 4000000 in
set_option maxRecDepth 100000 in
theorem c_X7_loadsThatMiss {lch : Launch} {dG : va_G} {cyI cyZ cyO : ClassId} (a0 : Nat) (aR : Nat) (aN : Nat) (aO : Nat) (aH : Nat) (aE : Nat) (aW : Nat) (aK : Nat) (aIm : Nat) (aKp : Nat) (aMb : Nat) (t : Nat → Nat) (aKd : Nat) (aFi : Nat) (aSe : Nat) (aSb : Nat) (aLd : Nat) (kd : Nat → Nat) (fi : Nat → Nat) (se : Nat → Nat) (sb : Nat → Nat) (ld : Nat → Nat) (aWi : Nat) (aCu : Nat) (aCb : Nat) (aSk : Nat) (wi : Nat → Nat) (cu : Nat → Nat) (cb : Nat → Nat) (sk : Nat → Nat) (aSh : Nat) (aFo : Nat) (aBa : Nat) (aRc : Nat) (gr : Bool) (sh : Nat → Nat) (fo : Nat → Bool) (ba : Nat → Bool) (rc : Nat → Nat) (s : Nat → Nat) (hT : WT t) (hS : WS s) (hN : RN t kd fi se sb ld) (hR : RS s wi cu cb sk) : Ki lch yX7_loadsThatMiss cX7_loadsThatMiss 3 .int (rmk 6) dG (cyI, cyZ, cyO) [.ref a0] [(a0, .inr (7, [.ref aR, .ref aN, .ref aO, .ref aH, .ref aE, .ref aW, .ref aK, .ref aIm, .ref aKp, .ref aMb])), (aN, .inr (1, [.int (nI (t 0)), .int (nI (t 1)), .int (nI (t 2)), .ref aKd, .ref aFi, .ref aSe, .ref aSb, .ref aLd])), (aKd, .inl (cyI, 9, .inl (nA kd))), (aFi, .inl (cyI, 9, .inl (nA fi))), (aSe, .inl (cyI, 9, .inl (nA se))), (aSb, .inl (cyI, 9, .inl (nA sb))), (aLd, .inl (cyI, 3, .inl (nA ld))), (aO, .inr (4, [.ref aWi, .ref aCu, .ref aCb, .ref aSk])), (aWi, .inl (cyI, 3, .inl (nA wi))), (aCu, .inl (cyI, 9, .inl (nA cu))), (aCb, .inl (cyI, 9, .inl (nA cb))), (aSk, .inl (cyI, 9, .inl (nA sk))), (aW, .inr (6, [.ref aSh, .ref aN, .ref aO, .ref aFo, .ref aBa, .ref aRc, .int (bI gr)])), (aSh, .inl (cyI, 9, .inl (nA sh))), (aFo, .inl (cyZ, 9, .inl (bA fo))), (aBa, .inl (cyZ, 9, .inl (bA ba))), (aRc, .inl (cyI, 7, .inl (nA rc)))] (fun r w1 => ∃ (sh1 : Nat → Nat), ∃ (fo1 : Nat → Bool), ∃ (ba1 : Nat → Bool), ∃ (rc1 : Nat → Nat), ∃ (g1 : Bool), w1 = [(a0, .inr (7, [.ref aR, .ref aN, .ref aO, .ref aH, .ref aE, .ref aW, .ref aK, .ref aIm, .ref aKp, .ref aMb])), (aN, .inr (1, [.int (nI (t 0)), .int (nI (t 1)), .int (nI (t 2)), .ref aKd, .ref aFi, .ref aSe, .ref aSb, .ref aLd])), (aKd, .inl (cyI, 9, .inl (nA kd))), (aFi, .inl (cyI, 9, .inl (nA fi))), (aSe, .inl (cyI, 9, .inl (nA se))), (aSb, .inl (cyI, 9, .inl (nA sb))), (aLd, .inl (cyI, 3, .inl (nA ld))), (aO, .inr (4, [.ref aWi, .ref aCu, .ref aCb, .ref aSk])), (aWi, .inl (cyI, 3, .inl (nA wi))), (aCu, .inl (cyI, 9, .inl (nA cu))), (aCb, .inl (cyI, 9, .inl (nA cb))), (aSk, .inl (cyI, 9, .inl (nA sk))), (aW, .inr (6, [.ref aSh, .ref aN, .ref aO, .ref aFo, .ref aBa, .ref aRc, .int (bI g1)])), (aSh, .inl (cyI, 9, .inl (nA sh1))), (aFo, .inl (cyZ, 9, .inl (bA fo1))), (aBa, .inl (cyZ, 9, .inl (bA ba1))), (aRc, .inl (cyI, 7, .inl (nA rc1)))] ∧ r = (nI (cnB (fun l => decide (anN (s l) (fedN t s l) ≠ 0)) (t 2)))) := by
  have h1 := hT.n
  have hkd : ∀ c, c < t 1 → kd c = t (3 + c) := fun c hc => (hN.1 c hc).1
  have hfi : ∀ c, c < t 1 → fi c = t (12 + c) := fun c hc => (hN.1 c hc).2.1
  have hse : ∀ c, c < t 1 → se c = t (21 + c) := fun c hc => (hN.1 c hc).2.2.1
  have hsb : ∀ c, c < t 1 → sb c = t (30 + c) := fun c hc => (hN.1 c hc).2.2.2
  have hld : ∀ l, l < t 2 → ld l = t (39 + l) := hN.2
  have hwi : ∀ l, l < 3 → wi l = s l := hR.1
  have hcu : ∀ c, c < 9 → cu c = s (3 + c) := fun c hc => (hR.2 c hc).1
  have hcb : ∀ c, c < 9 → cb c = s (12 + c) := fun c hc => (hR.2 c hc).2.1
  have hsk : ∀ c, c < 9 → sk c = s (21 + c) := fun c hc => (hR.2 c hc).2.2
  refine Ki.of (own := RX7) rfl (by decide) (Nat.le_of_ble_eq_true rfl) (fun p0 e0 s0 m0 ar0 be0 me0 cd0 A0 C hr hk hnm hA => ?_)
  refine j_lsub [(0, .ref a0)] [0] rfl ?_
  refine j_iconst (v := (nI 0)) (pc' := 1) C dX7_loadsThatMiss_0 rfl (by decide +kernel) ?_
  refine j_istore_n (pc' := 2) C [(1, .int (nI 0)), (0, .ref a0)] dX7_loadsThatMiss_1 rfl (by decide) rfl ?_
  refine j_iconst (v := (nI 0)) (pc' := 3) C dX7_loadsThatMiss_2 rfl (by decide +kernel) ?_
  refine j_istore_n (pc' := 4) C [(2, .int (nI 0)), (1, .int (nI 0)), (0, .ref a0)] dX7_loadsThatMiss_3 rfl (by decide) rfl ?_
  refine j_lsub [(0, .ref a0), (1, .int (nI 0)), (2, .int (nI 0))] [2, 1, 0] rfl ?_
  refine j_loop7 (fun (i : Nat) (z : Nat) (sh2 : Nat → Nat) (fo2 : Nat → Bool) (ba2 : Nat → Bool) (rc2 : Nat → Nat) (g2 : Bool) => [(a0, .inr (7, [.ref aR, .ref aN, .ref aO, .ref aH, .ref aE, .ref aW, .ref aK, .ref aIm, .ref aKp, .ref aMb])), (aN, .inr (1, [.int (nI (t 0)), .int (nI (t 1)), .int (nI (t 2)), .ref aKd, .ref aFi, .ref aSe, .ref aSb, .ref aLd])), (aKd, .inl (cyI, 9, .inl (nA kd))), (aFi, .inl (cyI, 9, .inl (nA fi))), (aSe, .inl (cyI, 9, .inl (nA se))), (aSb, .inl (cyI, 9, .inl (nA sb))), (aLd, .inl (cyI, 3, .inl (nA ld))), (aO, .inr (4, [.ref aWi, .ref aCu, .ref aCb, .ref aSk])), (aWi, .inl (cyI, 3, .inl (nA wi))), (aCu, .inl (cyI, 9, .inl (nA cu))), (aCb, .inl (cyI, 9, .inl (nA cb))), (aSk, .inl (cyI, 9, .inl (nA sk))), (aW, .inr (6, [.ref aSh, .ref aN, .ref aO, .ref aFo, .ref aBa, .ref aRc, .int (bI g2)])), (aSh, .inl (cyI, 9, .inl (nA sh2))), (aFo, .inl (cyZ, 9, .inl (bA fo2))), (aBa, .inl (cyZ, 9, .inl (bA ba2))), (aRc, .inl (cyI, 7, .inl (nA rc2)))]) (fun (i : Nat) (z : Nat) (sh2 : Nat → Nat) (fo2 : Nat → Bool) (ba2 : Nat → Bool) (rc2 : Nat → Nat) (g2 : Bool) => [(0, .ref a0), (1, .int (nI z)), (2, .int (nI i))]) (fun (i : Nat) (z : Nat) (sh2 : Nat → Nat) (fo2 : Nat → Bool) (ba2 : Nat → Bool) (rc2 : Nat → Nat) (g2 : Bool) => []) (fun (i : Nat) (z : Nat) (sh2 : Nat → Nat) (fo2 : Nat → Bool) (ba2 : Nat → Bool) (rc2 : Nat → Nat) (g2 : Bool) => i ≤ t 2 ∧ z = cnB (fun l => decide (anN (s l) (fedN t s l) ≠ 0)) i) (fun (i : Nat) (z : Nat) (sh2 : Nat → Nat) (fo2 : Nat → Bool) (ba2 : Nat → Bool) (rc2 : Nat → Nat) (g2 : Bool) => t 2 - i) ?_ 0 0 sh fo ba rc gr ?_
  · intro i z sh2 fo2 ba2 rc2 g2 hI4 ih4
    obtain ⟨hi, hz⟩ := hI4
    refine j_iload_n (pc' := 5) C dX7_loadsThatMiss_4 rfl 2 rfl ?_
    refine j_aload_n (pc' := 6) C dX7_loadsThatMiss_5 rfl 0 rfl ?_
    refine j_get (v := .ref aN) (pc' := 9) C KX7 0 1 rfl (by decide) fl_X7_19 rfl rfl dX7_loadsThatMiss_6 rfl ?_
    refine j_get (v := .int (nI (t 2))) (pc' := 12) C KX1 1 2 rfl (by decide) fl_X7_233 rfl rfl dX7_loadsThatMiss_9 rfl ?_
    refine j_nc_ge (pc' := 15) C 44 dX7_loadsThatMiss_12 (by decide) rfl (by omega) (by omega) (fun c12 => ?_) (fun c12 => ?_)
    · refine j_iload_n (pc' := 45) C dX7_loadsThatMiss_44 rfl 1 rfl ?_
      exact j_iret C hr hk hA dX7_loadsThatMiss_45 (rfl) (⟨_, _, _, _, _, rfl, by rw [hz, show i = t 2 by omega]⟩)
    · have h5 := hS.1 i (by omega)
      have h6 := hwi i (by omega)
      refine j_aload_n (pc' := 16) C dX7_loadsThatMiss_15 rfl 0 rfl ?_
      refine j_get (v := .ref aO) (pc' := 19) C KX7 0 2 rfl (by decide) fl_X7_26 rfl rfl dX7_loadsThatMiss_16 rfl ?_
      refine j_get (v := .ref aWi) (pc' := 22) C KX4 7 0 rfl (by decide) fl_X7_139 rfl rfl dX7_loadsThatMiss_19 rfl ?_
      refine j_iload_n (pc' := 23) C dX7_loadsThatMiss_22 rfl 2 rfl ?_
      refine j_nald (pc' := 24) C 8 rfl (by omega) (by decide) dX7_loadsThatMiss_23 rfl ?_
      refine j_aload_n (pc' := 25) C dX7_loadsThatMiss_24 rfl 0 rfl ?_
      refine j_iload_n (pc' := 26) C dX7_loadsThatMiss_25 rfl 2 rfl ?_
      refine j_cVi (As := [.int (nI i)]) (wr := []) (pc' := 29) C (c_X7_fedNow (a0 := a0) (aR := aR) (aN := aN) (aO := aO) (aH := aH) (aE := aE) (aW := aW) (aK := aK) (aIm := aIm) (aKp := aKp) (aMb := aMb) (t := t) (aKd := aKd) (aFi := aFi) (aSe := aSe) (aSb := aSb) (aLd := aLd) (kd := kd) (fi := fi) (se := se) (sb := sb) (ld := ld) (aWi := aWi) (aCu := aCu) (aCb := aCb) (aSk := aSk) (wi := wi) (cu := cu) (cb := cb) (sk := sk) (aSh := aSh) (aFo := aFo) (aBa := aBa) (aRc := aRc) (gr := g2) (sh := sh2) (fo := fo2) (ba := ba2) (rc := rc2) (s := s) (l := i) (hT := by first | assumption | omega) (hS := by first | assumption | omega) (hN := by first | assumption | omega) (hR := by first | assumption | omega) (hl := c12)) Y_X7_fedNow (ml_X7_135) [0, 1, 2, 3, 4, 5, 6, 7, 8, 9, 10, 11, 12, 13, 14, 15, 16] [] rfl rfl rfl rfl (by decide) rfl rfl rfl dX7_loadsThatMiss_26 rfl rfl rfl (Nat.le_of_ble_eq_true rfl) ⟨Nat.le_of_ble_eq_true rfl, Nat.le_of_ble_eq_true rfl⟩ ⟨Nat.le_of_ble_eq_true rfl, Nat.le_of_ble_eq_true rfl⟩ ⟨rfl, rfl⟩ (fun r1 w1 hQ => ?_)
      obtain ⟨sh1_1, fo1_1, ba1_1, rc1_1, g1_1, rfl, rfl⟩ := hQ
      refine j_iconst (v := (nI 4294967295)) (pc' := 30) C dX7_loadsThatMiss_29 rfl (by decide +kernel) ?_
      refine j_ixor (v := (nI ((fedN t s i) ^^^ 4294967295))) (pc' := 31) C dX7_loadsThatMiss_30 rfl (fb_xorI (fedN t s i) 4294967295) ?_
      refine j_iand (v := (nI ((wi i) &&& ((fedN t s i) ^^^ 4294967295)))) (pc' := 32) C dX7_loadsThatMiss_31 rfl (fa_and (wi i) ((fedN t s i) ^^^ 4294967295)) ?_
      refine j_nz_eq (pc' := 35) C 38 dX7_loadsThatMiss_32 (by decide) rfl (by have := fedN_lt t s i; have := h5; exact Nat.lt_of_le_of_lt Nat.and_le_left (by omega)) (fun c32 => ?_) (fun c32 => ?_)
      · refine j_iinc (v := (nI (i + 1))) (pc' := 41) C [(2, .int (nI (i + 1))), (0, .ref a0), (1, .int (nI z))] dX7_loadsThatMiss_38 rfl 2 rfl (inc_n i 1) (by decide) rfl ?_
        refine j_goto C 4 dX7_loadsThatMiss_41 (by decide) ?_
        refine j_lsub [(0, .ref a0), (1, .int (nI z)), (2, .int (nI (i + 1)))] [1, 2, 0] rfl ?_
        exact ih4 (i + 1) z sh1_1 fo1_1 ba1_1 rc1_1 g1_1 (⟨by omega, by rw [hz, cnB]; rw [decide_eq_false (fun q9 => q9 (by unfold anN; rw [← hwi i (by omega)]; exact c32))]; rfl⟩) (by omega)
      · refine j_iinc (v := (nI (z + 1))) (pc' := 38) C [(1, .int (nI (z + 1))), (0, .ref a0), (2, .int (nI i))] dX7_loadsThatMiss_35 rfl 1 rfl (inc_n z 1) (by decide) rfl ?_
        refine j_iinc (v := (nI (i + 1))) (pc' := 41) C [(2, .int (nI (i + 1))), (1, .int (nI (z + 1))), (0, .ref a0)] dX7_loadsThatMiss_38 rfl 2 rfl (inc_n i 1) (by decide) rfl ?_
        refine j_goto C 4 dX7_loadsThatMiss_41 (by decide) ?_
        refine j_lsub [(0, .ref a0), (1, .int (nI (z + 1))), (2, .int (nI (i + 1)))] [2, 1, 0] rfl ?_
        exact ih4 (i + 1) (z + 1) sh1_1 fo1_1 ba1_1 rc1_1 g1_1 (⟨by omega, by rw [hz, cnB]; rw [decide_eq_true (by unfold anN; rw [← hwi i (by omega)]; exact c32)]; rfl⟩) (by omega)
  · exact ⟨Nat.zero_le _, rfl⟩

set_option maxHeartbeats 4000000 in
set_option maxRecDepth 100000 in
theorem c_X7_count {lch : Launch} {dG : va_G} {cyI cyZ cyO : ClassId} (a0 : Nat) (aR : Nat) (aN : Nat) (aO : Nat) (aH : Nat) (aE : Nat) (aW : Nat) (aK : Nat) (aIm : Nat) (aKp : Nat) (aMb : Nat) (aD : Nat) (tn : Nat) (aX : Nat) (ra : Int32) (rt : Int32) (rp : Int32) (un : Nat) (aHs : Nat) (aHw : Nat) (aHv : Nat) (aHb : Nat) (sm : Nat) (aEl : Nat) (aEs : Nat) (aEf : Nat) (t : Nat → Nat) (aKd : Nat) (aFi : Nat) (aSe : Nat) (aSb : Nat) (aLd : Nat) (kd : Nat → Nat) (fi : Nat → Nat) (se : Nat → Nat) (sb : Nat → Nat) (ld : Nat → Nat) (aWi : Nat) (aCu : Nat) (aCb : Nat) (aSk : Nat) (wi : Nat → Nat) (cu : Nat → Nat) (cb : Nat → Nat) (sk : Nat → Nat) (aSh : Nat) (aFo : Nat) (aBa : Nat) (aRc : Nat) (gr : Bool) (sh : Nat → Nat) (fo : Nat → Bool) (ba : Nat → Bool) (rc : Nat → Nat) (s : Nat → Nat) (w : Int32) (hT : WT t) (hS : WS s) (hN : RN t kd fi se sb ld) (hR : RS s wi cu cb sk) : Ki lch yX7_count cX7_count 2 .int (rmk 7) dG (cyI, cyZ, cyO) [.ref a0, .int w] [(a0, .inr (7, [.ref aR, .ref aN, .ref aO, .ref aH, .ref aE, .ref aW, .ref aK, .ref aIm, .ref aKp, .ref aMb])), (aR, .inr (2, [.ref aD, .int (nI tn), .ref aX, .int ra, .int rt, .int rp])), (aH, .inr (0, [.int (nI un), .ref aHs, .ref aHw, .ref aHv, .ref aHb])), (aE, .inr (3, [.int (nI sm), .ref aEl, .ref aEs, .ref aEf])), (aN, .inr (1, [.int (nI (t 0)), .int (nI (t 1)), .int (nI (t 2)), .ref aKd, .ref aFi, .ref aSe, .ref aSb, .ref aLd])), (aKd, .inl (cyI, 9, .inl (nA kd))), (aFi, .inl (cyI, 9, .inl (nA fi))), (aSe, .inl (cyI, 9, .inl (nA se))), (aSb, .inl (cyI, 9, .inl (nA sb))), (aLd, .inl (cyI, 3, .inl (nA ld))), (aO, .inr (4, [.ref aWi, .ref aCu, .ref aCb, .ref aSk])), (aWi, .inl (cyI, 3, .inl (nA wi))), (aCu, .inl (cyI, 9, .inl (nA cu))), (aCb, .inl (cyI, 9, .inl (nA cb))), (aSk, .inl (cyI, 9, .inl (nA sk))), (aW, .inr (6, [.ref aSh, .ref aN, .ref aO, .ref aFo, .ref aBa, .ref aRc, .int (bI gr)])), (aSh, .inl (cyI, 9, .inl (nA sh))), (aFo, .inl (cyZ, 9, .inl (bA fo))), (aBa, .inl (cyZ, 9, .inl (bA ba))), (aRc, .inl (cyI, 7, .inl (nA rc)))] (fun r w1 => ∃ (sh1 : Nat → Nat), ∃ (fo1 : Nat → Bool), ∃ (ba1 : Nat → Bool), ∃ (rc1 : Nat → Nat), ∃ (g1 : Bool), w1 = [(a0, .inr (7, [.ref aR, .ref aN, .ref aO, .ref aH, .ref aE, .ref aW, .ref aK, .ref aIm, .ref aKp, .ref aMb])), (aR, .inr (2, [.ref aD, .int (nI tn), .ref aX, .int ra, .int rt, .int rp])), (aH, .inr (0, [.int (nI un), .ref aHs, .ref aHw, .ref aHv, .ref aHb])), (aE, .inr (3, [.int (nI sm), .ref aEl, .ref aEs, .ref aEf])), (aN, .inr (1, [.int (nI (t 0)), .int (nI (t 1)), .int (nI (t 2)), .ref aKd, .ref aFi, .ref aSe, .ref aSb, .ref aLd])), (aKd, .inl (cyI, 9, .inl (nA kd))), (aFi, .inl (cyI, 9, .inl (nA fi))), (aSe, .inl (cyI, 9, .inl (nA se))), (aSb, .inl (cyI, 9, .inl (nA sb))), (aLd, .inl (cyI, 3, .inl (nA ld))), (aO, .inr (4, [.ref aWi, .ref aCu, .ref aCb, .ref aSk])), (aWi, .inl (cyI, 3, .inl (nA wi))), (aCu, .inl (cyI, 9, .inl (nA cu))), (aCb, .inl (cyI, 9, .inl (nA cb))), (aSk, .inl (cyI, 9, .inl (nA sk))), (aW, .inr (6, [.ref aSh, .ref aN, .ref aO, .ref aFo, .ref aBa, .ref aRc, .int (bI g1)])), (aSh, .inl (cyI, 9, .inl (nA sh1))), (aFo, .inl (cyZ, 9, .inl (bA fo1))), (aBa, .inl (cyZ, 9, .inl (bA ba1))), (aRc, .inl (cyI, 7, .inl (nA rc1)))] ∧ r = coQ t s sm tn un w) := by
  have h1 := hT.n
  have hkd : ∀ c, c < t 1 → kd c = t (3 + c) := fun c hc => (hN.1 c hc).1
  have hfi : ∀ c, c < t 1 → fi c = t (12 + c) := fun c hc => (hN.1 c hc).2.1
  have hse : ∀ c, c < t 1 → se c = t (21 + c) := fun c hc => (hN.1 c hc).2.2.1
  have hsb : ∀ c, c < t 1 → sb c = t (30 + c) := fun c hc => (hN.1 c hc).2.2.2
  have hld : ∀ l, l < t 2 → ld l = t (39 + l) := hN.2
  have hwi : ∀ l, l < 3 → wi l = s l := hR.1
  have hcu : ∀ c, c < 9 → cu c = s (3 + c) := fun c hc => (hR.2 c hc).1
  have hcb : ∀ c, c < 9 → cb c = s (12 + c) := fun c hc => (hR.2 c hc).2.1
  have hsk : ∀ c, c < 9 → sk c = s (21 + c) := fun c hc => (hR.2 c hc).2.2
  refine Ki.of (own := RX7) rfl (by decide) (Nat.le_of_ble_eq_true rfl) (fun p0 e0 s0 m0 ar0 be0 me0 cd0 A0 C hr hk hnm hA => ?_)
  refine j_lsub [(0, .ref a0), (1, .int w)] [0, 1] rfl ?_
  refine j_iload_n (pc' := 1) C dX7_count_0 rfl 1 rfl ?_
  by_cases sw1_0 : w = nI 0
  · refine j_tin (off := 47) C 48 dX7_count_1 (by rw [sw1_0]; decide +kernel) (by rw [sw1_0]; decide +kernel) (by rw [sw1_0]; decide +kernel) (by decide) ?_
    refine j_aload_n (pc' := 49) C dX7_count_48 rfl 0 rfl ?_
    refine j_get (v := .ref aN) (pc' := 52) C KX7 0 1 rfl (by decide) fl_X7_19 rfl rfl dX7_count_49 rfl ?_
    refine j_get (v := .int (nI (t 0))) (pc' := 55) C KX1 4 0 rfl (by decide) fl_X7_230 rfl rfl dX7_count_52 rfl ?_
    have ho : inR w 8 = true := by rw [sw1_0]; decide +kernel
    exact j_iret C hr hk hA dX7_count_55 (rfl) (⟨_, _, _, _, _, rfl, by unfold coQ; rw [if_neg (by rw [ho]; decide)]; rw [sw1_0, if_neg (by decide +kernel), if_neg (by decide +kernel), if_neg (by decide +kernel), if_neg (by decide +kernel), if_neg (by decide +kernel), nI_clamp (by decide)]⟩)
  by_cases sw1_1 : w = nI 1
  · refine j_tin (off := 55) C 56 dX7_count_1 (by rw [sw1_1]; decide +kernel) (by rw [sw1_1]; decide +kernel) (by rw [sw1_1]; decide +kernel) (by decide) ?_
    refine j_aload_n (pc' := 57) C dX7_count_56 rfl 0 rfl ?_
    refine j_get (v := .ref aN) (pc' := 60) C KX7 0 1 rfl (by decide) fl_X7_19 rfl rfl dX7_count_57 rfl ?_
    refine j_get (v := .int (nI (t 1))) (pc' := 63) C KX1 4 1 rfl (by decide) fl_X7_183 rfl rfl dX7_count_60 rfl ?_
    have ho : inR w 8 = true := by rw [sw1_1]; decide +kernel
    exact j_iret C hr hk hA dX7_count_63 (rfl) (⟨_, _, _, _, _, rfl, by unfold coQ; rw [if_neg (by rw [ho]; decide)]; rw [sw1_1, if_neg (by decide +kernel), if_neg (by decide +kernel), if_neg (by decide +kernel), if_neg (by decide +kernel), if_neg (by decide +kernel), nI_clamp (by decide)]⟩)
  by_cases sw1_2 : w = nI 2
  · refine j_tin (off := 63) C 64 dX7_count_1 (by rw [sw1_2]; decide +kernel) (by rw [sw1_2]; decide +kernel) (by rw [sw1_2]; decide +kernel) (by decide) ?_
    refine j_aload_n (pc' := 65) C dX7_count_64 rfl 0 rfl ?_
    refine j_get (v := .ref aN) (pc' := 68) C KX7 0 1 rfl (by decide) fl_X7_19 rfl rfl dX7_count_65 rfl ?_
    refine j_get (v := .int (nI (t 2))) (pc' := 71) C KX1 4 2 rfl (by decide) fl_X7_233 rfl rfl dX7_count_68 rfl ?_
    have ho : inR w 8 = true := by rw [sw1_2]; decide +kernel
    exact j_iret C hr hk hA dX7_count_71 (rfl) (⟨_, _, _, _, _, rfl, by unfold coQ; rw [if_neg (by rw [ho]; decide)]; rw [sw1_2, if_neg (by decide +kernel), if_neg (by decide +kernel), if_neg (by decide +kernel), if_neg (by decide +kernel), if_neg (by decide +kernel), nI_clamp (by decide)]⟩)
  by_cases sw1_3 : w = nI 3
  · refine j_tin (off := 71) C 72 dX7_count_1 (by rw [sw1_3]; decide +kernel) (by rw [sw1_3]; decide +kernel) (by rw [sw1_3]; decide +kernel) (by decide) ?_
    refine j_aload_n (pc' := 73) C dX7_count_72 rfl 0 rfl ?_
    refine j_cVi (As := []) (wr := [(aR, .inr (2, [.ref aD, .int (nI tn), .ref aX, .int ra, .int rt, .int rp])), (aH, .inr (0, [.int (nI un), .ref aHs, .ref aHw, .ref aHv, .ref aHb])), (aE, .inr (3, [.int (nI sm), .ref aEl, .ref aEs, .ref aEf]))]) (pc' := 76) C (c_X7_loadsThatSneak (a0 := a0) (aR := aR) (aN := aN) (aO := aO) (aH := aH) (aE := aE) (aW := aW) (aK := aK) (aIm := aIm) (aKp := aKp) (aMb := aMb) (t := t) (aKd := aKd) (aFi := aFi) (aSe := aSe) (aSb := aSb) (aLd := aLd) (kd := kd) (fi := fi) (se := se) (sb := sb) (ld := ld) (aWi := aWi) (aCu := aCu) (aCb := aCb) (aSk := aSk) (wi := wi) (cu := cu) (cb := cb) (sk := sk) (aSh := aSh) (aFo := aFo) (aBa := aBa) (aRc := aRc) (gr := gr) (sh := sh) (fo := fo) (ba := ba) (rc := rc) (s := s) (hT := by first | assumption | omega) (hS := by first | assumption | omega) (hN := by first | assumption | omega) (hR := by first | assumption | omega)) Y_X7_loadsThatSneak (ml_X7_236) [0, 4, 5, 6, 7, 8, 9, 10, 11, 12, 13, 14, 15, 16, 17, 18, 19] [1, 2, 3] rfl rfl rfl rfl (by decide) rfl rfl rfl dX7_count_73 rfl rfl rfl (Nat.le_of_ble_eq_true rfl) ⟨Nat.le_of_ble_eq_true rfl, Nat.le_of_ble_eq_true rfl⟩ ⟨Nat.le_of_ble_eq_true rfl, Nat.le_of_ble_eq_true rfl⟩ ⟨rfl, rfl⟩ (fun r1 w1 hQ => ?_)
    obtain ⟨sh1_1, fo1_1, ba1_1, rc1_1, g1_1, rfl, rfl⟩ := hQ
    refine j_perm [(a0, .inr (7, [.ref aR, .ref aN, .ref aO, .ref aH, .ref aE, .ref aW, .ref aK, .ref aIm, .ref aKp, .ref aMb])), (aR, .inr (2, [.ref aD, .int (nI tn), .ref aX, .int ra, .int rt, .int rp])), (aH, .inr (0, [.int (nI un), .ref aHs, .ref aHw, .ref aHv, .ref aHb])), (aE, .inr (3, [.int (nI sm), .ref aEl, .ref aEs, .ref aEf])), (aN, .inr (1, [.int (nI (t 0)), .int (nI (t 1)), .int (nI (t 2)), .ref aKd, .ref aFi, .ref aSe, .ref aSb, .ref aLd])), (aKd, .inl (cyI, 9, .inl (nA kd))), (aFi, .inl (cyI, 9, .inl (nA fi))), (aSe, .inl (cyI, 9, .inl (nA se))), (aSb, .inl (cyI, 9, .inl (nA sb))), (aLd, .inl (cyI, 3, .inl (nA ld))), (aO, .inr (4, [.ref aWi, .ref aCu, .ref aCb, .ref aSk])), (aWi, .inl (cyI, 3, .inl (nA wi))), (aCu, .inl (cyI, 9, .inl (nA cu))), (aCb, .inl (cyI, 9, .inl (nA cb))), (aSk, .inl (cyI, 9, .inl (nA sk))), (aW, .inr (6, [.ref aSh, .ref aN, .ref aO, .ref aFo, .ref aBa, .ref aRc, .int (bI g1_1)])), (aSh, .inl (cyI, 9, .inl (nA sh1_1))), (aFo, .inl (cyZ, 9, .inl (bA fo1_1))), (aBa, .inl (cyZ, 9, .inl (bA ba1_1))), (aRc, .inl (cyI, 7, .inl (nA rc1_1)))] [3, 0, 1, 2, 4, 5, 6, 7, 8, 9, 10, 11, 12, 13, 14, 15, 16, 17, 18, 19] rfl rfl (by decide) ?_
    have ho : inR w 8 = true := by rw [sw1_3]; decide +kernel
    exact j_iret C hr hk hA dX7_count_76 (rfl) (⟨_, _, _, _, _, rfl, by unfold coQ; rw [if_neg (by rw [ho]; decide)]; rw [if_pos sw1_3]⟩)
  by_cases sw1_4 : w = nI 4
  · refine j_tin (off := 76) C 77 dX7_count_1 (by rw [sw1_4]; decide +kernel) (by rw [sw1_4]; decide +kernel) (by rw [sw1_4]; decide +kernel) (by decide) ?_
    refine j_aload_n (pc' := 78) C dX7_count_77 rfl 0 rfl ?_
    refine j_cVi (As := []) (wr := [(aR, .inr (2, [.ref aD, .int (nI tn), .ref aX, .int ra, .int rt, .int rp])), (aH, .inr (0, [.int (nI un), .ref aHs, .ref aHw, .ref aHv, .ref aHb])), (aE, .inr (3, [.int (nI sm), .ref aEl, .ref aEs, .ref aEf]))]) (pc' := 81) C (c_X7_loadsThatMiss (a0 := a0) (aR := aR) (aN := aN) (aO := aO) (aH := aH) (aE := aE) (aW := aW) (aK := aK) (aIm := aIm) (aKp := aKp) (aMb := aMb) (t := t) (aKd := aKd) (aFi := aFi) (aSe := aSe) (aSb := aSb) (aLd := aLd) (kd := kd) (fi := fi) (se := se) (sb := sb) (ld := ld) (aWi := aWi) (aCu := aCu) (aCb := aCb) (aSk := aSk) (wi := wi) (cu := cu) (cb := cb) (sk := sk) (aSh := aSh) (aFo := aFo) (aBa := aBa) (aRc := aRc) (gr := gr) (sh := sh) (fo := fo) (ba := ba) (rc := rc) (s := s) (hT := by first | assumption | omega) (hS := by first | assumption | omega) (hN := by first | assumption | omega) (hR := by first | assumption | omega)) Y_X7_loadsThatMiss (ml_X7_239) [0, 4, 5, 6, 7, 8, 9, 10, 11, 12, 13, 14, 15, 16, 17, 18, 19] [1, 2, 3] rfl rfl rfl rfl (by decide) rfl rfl rfl dX7_count_78 rfl rfl rfl (Nat.le_of_ble_eq_true rfl) ⟨Nat.le_of_ble_eq_true rfl, Nat.le_of_ble_eq_true rfl⟩ ⟨Nat.le_of_ble_eq_true rfl, Nat.le_of_ble_eq_true rfl⟩ ⟨rfl, rfl⟩ (fun r2 w1 hQ => ?_)
    obtain ⟨sh1_2, fo1_2, ba1_2, rc1_2, g1_2, rfl, rfl⟩ := hQ
    refine j_perm [(a0, .inr (7, [.ref aR, .ref aN, .ref aO, .ref aH, .ref aE, .ref aW, .ref aK, .ref aIm, .ref aKp, .ref aMb])), (aR, .inr (2, [.ref aD, .int (nI tn), .ref aX, .int ra, .int rt, .int rp])), (aH, .inr (0, [.int (nI un), .ref aHs, .ref aHw, .ref aHv, .ref aHb])), (aE, .inr (3, [.int (nI sm), .ref aEl, .ref aEs, .ref aEf])), (aN, .inr (1, [.int (nI (t 0)), .int (nI (t 1)), .int (nI (t 2)), .ref aKd, .ref aFi, .ref aSe, .ref aSb, .ref aLd])), (aKd, .inl (cyI, 9, .inl (nA kd))), (aFi, .inl (cyI, 9, .inl (nA fi))), (aSe, .inl (cyI, 9, .inl (nA se))), (aSb, .inl (cyI, 9, .inl (nA sb))), (aLd, .inl (cyI, 3, .inl (nA ld))), (aO, .inr (4, [.ref aWi, .ref aCu, .ref aCb, .ref aSk])), (aWi, .inl (cyI, 3, .inl (nA wi))), (aCu, .inl (cyI, 9, .inl (nA cu))), (aCb, .inl (cyI, 9, .inl (nA cb))), (aSk, .inl (cyI, 9, .inl (nA sk))), (aW, .inr (6, [.ref aSh, .ref aN, .ref aO, .ref aFo, .ref aBa, .ref aRc, .int (bI g1_2)])), (aSh, .inl (cyI, 9, .inl (nA sh1_2))), (aFo, .inl (cyZ, 9, .inl (bA fo1_2))), (aBa, .inl (cyZ, 9, .inl (bA ba1_2))), (aRc, .inl (cyI, 7, .inl (nA rc1_2)))] [3, 0, 1, 2, 4, 5, 6, 7, 8, 9, 10, 11, 12, 13, 14, 15, 16, 17, 18, 19] rfl rfl (by decide) ?_
    have ho : inR w 8 = true := by rw [sw1_4]; decide +kernel
    exact j_iret C hr hk hA dX7_count_81 (rfl) (⟨_, _, _, _, _, rfl, by unfold coQ; rw [if_neg (by rw [ho]; decide)]; rw [if_neg sw1_3, if_pos sw1_4]⟩)
  by_cases sw1_5 : w = nI 5
  · refine j_tin (off := 81) C 82 dX7_count_1 (by rw [sw1_5]; decide +kernel) (by rw [sw1_5]; decide +kernel) (by rw [sw1_5]; decide +kernel) (by decide) ?_
    refine j_aload_n (pc' := 83) C dX7_count_82 rfl 0 rfl ?_
    refine j_get (v := .ref aE) (pc' := 86) C KX7 0 4 rfl (by decide) fl_X7_40 rfl rfl dX7_count_83 rfl ?_
    refine j_get (v := .int (nI sm)) (pc' := 89) C KX3 3 0 rfl (by decide) fl_X7_99 rfl rfl dX7_count_86 rfl ?_
    have ho : inR w 8 = true := by rw [sw1_5]; decide +kernel
    exact j_iret C hr hk hA dX7_count_89 (rfl) (⟨_, _, _, _, _, rfl, by unfold coQ; rw [if_neg (by rw [ho]; decide)]; rw [if_neg sw1_3, if_neg sw1_4, if_pos sw1_5]⟩)
  by_cases sw1_6 : w = nI 6
  · refine j_tin (off := 89) C 90 dX7_count_1 (by rw [sw1_6]; decide +kernel) (by rw [sw1_6]; decide +kernel) (by rw [sw1_6]; decide +kernel) (by decide) ?_
    refine j_aload_n (pc' := 91) C dX7_count_90 rfl 0 rfl ?_
    refine j_get (v := .ref aR) (pc' := 94) C KX7 0 0 rfl (by decide) fl_X7_10 rfl rfl dX7_count_91 rfl ?_
    refine j_get (v := .int (nI tn)) (pc' := 97) C KX2 1 1 rfl (by decide) fl_X7_78 rfl rfl dX7_count_94 rfl ?_
    have ho : inR w 8 = true := by rw [sw1_6]; decide +kernel
    exact j_iret C hr hk hA dX7_count_97 (rfl) (⟨_, _, _, _, _, rfl, by unfold coQ; rw [if_neg (by rw [ho]; decide)]; rw [if_neg sw1_3, if_neg sw1_4, if_neg sw1_5, if_pos sw1_6]⟩)
  by_cases sw1_7 : w = nI 7
  · refine j_tin (off := 97) C 98 dX7_count_1 (by rw [sw1_7]; decide +kernel) (by rw [sw1_7]; decide +kernel) (by rw [sw1_7]; decide +kernel) (by decide) ?_
    refine j_aload_n (pc' := 99) C dX7_count_98 rfl 0 rfl ?_
    refine j_get (v := .ref aH) (pc' := 102) C KX7 0 3 rfl (by decide) fl_X7_33 rfl rfl dX7_count_99 rfl ?_
    refine j_get (v := .int (nI un)) (pc' := 105) C KX0 2 0 rfl (by decide) fl_X7_96 rfl rfl dX7_count_102 rfl ?_
    have ho : inR w 8 = true := by rw [sw1_7]; decide +kernel
    exact j_iret C hr hk hA dX7_count_105 (rfl) (⟨_, _, _, _, _, rfl, by unfold coQ; rw [if_neg (by rw [ho]; decide)]; rw [if_neg sw1_3, if_neg sw1_4, if_neg sw1_5, if_neg sw1_6, if_pos sw1_7]⟩)
  refine j_tout C 106 dX7_count_1 (sw_out 8 w (by intro k9 hk9; rcases k9 with _ | _ | _ | _ | _ | _ | _ | _ | k9 <;> first | assumption | omega)) (by decide) ?_
  have hw8 : inR w 8 = false := by
    rcases sw_out 8 w (by intro k9 hk9; rcases k9 with _ | _ | _ | _ | _ | _ | _ | _ | k9 <;> first | assumption | omega) with q9 | q9
    · exact decide_eq_false (by omega)
    · exact decide_eq_false (by omega)
  refine j_iconst (v := (-1)) (pc' := 107) C dX7_count_106 rfl (by decide +kernel) ?_
  exact j_iret C hr hk hA dX7_count_107 (rfl) (⟨_, _, _, _, _, rfl, by unfold coQ; rw [if_pos hw8]⟩)
