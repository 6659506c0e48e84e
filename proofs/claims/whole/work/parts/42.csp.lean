set_option maxHeartbeats 4000000 in
set_option maxRecDepth 100000 in
theorem c_X7_isContact {lch : Launch} {dG : va_G} {cyI cyZ cyO : ClassId} (a0 : Nat) (aR : Nat) (aN : Nat) (aO : Nat) (aH : Nat) (aE : Nat) (aW : Nat) (aK : Nat) (aIm : Nat) (aKp : Nat) (aMb : Nat) (t : Nat → Nat) (aKd : Nat) (aFi : Nat) (aSe : Nat) (aSb : Nat) (aLd : Nat) (v : Int32) (hT : WT t) : Ki lch yX7_isContact cX7_isContact 2 .boolean (rmk 1) dG (cyI, cyZ, cyO) [.ref a0, .int v] [(a0, .inr (7, [.ref aR, .ref aN, .ref aO, .ref aH, .ref aE, .ref aW, .ref aK, .ref aIm, .ref aKp, .ref aMb])), (aN, .inr (1, [.int (nI (t 0)), .int (nI (t 1)), .int (nI (t 2)), .ref aKd, .ref aFi, .ref aSe, .ref aSb, .ref aLd]))] (fun r w1 => w1 = [(a0, .inr (7, [.ref aR, .ref aN, .ref aO, .ref aH, .ref aE, .ref aW, .ref aK, .ref aIm, .ref aKp, .ref aMb])), (aN, .inr (1, [.int (nI (t 0)), .int (nI (t 1)), .int (nI (t 2)), .ref aKd, .ref aFi, .ref aSe, .ref aSb, .ref aLd]))] ∧ r = (bI (inR v (t 1)))) := by
  have h1 := hT.n
  refine Ki.of (own := RX7) rfl (by decide) (Nat.le_of_ble_eq_true rfl) (fun p0 e0 s0 m0 ar0 be0 me0 cd0 A0 C hr hk hnm hA => ?_)
  refine j_lsub [(0, .ref a0), (1, .int v)] [0, 1] rfl ?_
  refine j_iload_n (pc' := 1) C dX7_isContact_0 rfl 1 rfl ?_
  refine j_if_lt (pc' := 4) C 19 dX7_isContact_1 (by decide) rfl (fun c1 => ?_) (fun c1 => ?_)
  · refine j_iconst (v := (nI 0)) (pc' := 20) C dX7_isContact_19 rfl (by decide +kernel) ?_
    refine j_top (bI false) (by decide +kernel) ?_
    exact j_iret C hr hk hA dX7_isContact_20 (nrw_bI _) (⟨rfl, by rw [in_lo c1]⟩)
  · refine j_iload_n (pc' := 5) C dX7_isContact_4 rfl 1 rfl ?_
    refine j_aload_n (pc' := 6) C dX7_isContact_5 rfl 0 rfl ?_
    refine j_get (v := .ref aN) (pc' := 9) C KX7 0 1 rfl (by decide) fl_X7_19 rfl rfl dX7_isContact_6 rfl ?_
    refine j_get (v := .int (nI (t 1))) (pc' := 12) C KX1 1 1 rfl (by decide) fl_X7_183 rfl rfl dX7_isContact_9 rfl ?_
    refine j_ic_ge (pc' := 15) C 19 dX7_isContact_12 (by decide) rfl (fun c12 => ?_) (fun c12 => ?_)
    · refine j_iconst (v := (nI 0)) (pc' := 20) C dX7_isContact_19 rfl (by decide +kernel) ?_
      refine j_top (bI false) (by decide +kernel) ?_
      exact j_iret C hr hk hA dX7_isContact_20 (nrw_bI _) (⟨rfl, by rw [in_hi (by omega) c12]⟩)
    · refine j_iconst (v := (nI 1)) (pc' := 16) C dX7_isContact_15 rfl (by decide +kernel) ?_
      refine j_goto C 20 dX7_isContact_16 (by decide) ?_
      refine j_top (bI true) (by decide +kernel) ?_
      exact j_iret C hr hk hA dX7_isContact_20 (nrw_bI _) (⟨rfl, by rw [in_ok (by omega) c1 c12]⟩)

set_option maxHeartbeats 4000000 in
set_option maxRecDepth 100000 in
theorem c_X7_isLoad {lch : Launch} {dG : va_G} {cyI cyZ cyO : ClassId} (a0 : Nat) (aR : Nat) (aN : Nat) (aO : Nat) (aH : Nat) (aE : Nat) (aW : Nat) (aK : Nat) (aIm : Nat) (aKp : Nat) (aMb : Nat) (t : Nat → Nat) (aKd : Nat) (aFi : Nat) (aSe : Nat) (aSb : Nat) (aLd : Nat) (v : Int32) (hT : WT t) : Ki lch yX7_isLoad cX7_isLoad 2 .boolean (rmk 1) dG (cyI, cyZ, cyO) [.ref a0, .int v] [(a0, .inr (7, [.ref aR, .ref aN, .ref aO, .ref aH, .ref aE, .ref aW, .ref aK, .ref aIm, .ref aKp, .ref aMb])), (aN, .inr (1, [.int (nI (t 0)), .int (nI (t 1)), .int (nI (t 2)), .ref aKd, .ref aFi, .ref aSe, .ref aSb, .ref aLd]))] (fun r w1 => w1 = [(a0, .inr (7, [.ref aR, .ref aN, .ref aO, .ref aH, .ref aE, .ref aW, .ref aK, .ref aIm, .ref aKp, .ref aMb])), (aN, .inr (1, [.int (nI (t 0)), .int (nI (t 1)), .int (nI (t 2)), .ref aKd, .ref aFi, .ref aSe, .ref aSb, .ref aLd]))] ∧ r = (bI (inR v (t 2)))) := by
  have h1 := hT.n
  refine Ki.of (own := RX7) rfl (by decide) (Nat.le_of_ble_eq_true rfl) (fun p0 e0 s0 m0 ar0 be0 me0 cd0 A0 C hr hk hnm hA => ?_)
  refine j_lsub [(0, .ref a0), (1, .int v)] [0, 1] rfl ?_
  refine j_iload_n (pc' := 1) C dX7_isLoad_0 rfl 1 rfl ?_
  refine j_if_lt (pc' := 4) C 19 dX7_isLoad_1 (by decide) rfl (fun c1 => ?_) (fun c1 => ?_)
  · refine j_iconst (v := (nI 0)) (pc' := 20) C dX7_isLoad_19 rfl (by decide +kernel) ?_
    refine j_top (bI false) (by decide +kernel) ?_
    exact j_iret C hr hk hA dX7_isLoad_20 (nrw_bI _) (⟨rfl, by rw [in_lo c1]⟩)
  · refine j_iload_n (pc' := 5) C dX7_isLoad_4 rfl 1 rfl ?_
    refine j_aload_n (pc' := 6) C dX7_isLoad_5 rfl 0 rfl ?_
    refine j_get (v := .ref aN) (pc' := 9) C KX7 0 1 rfl (by decide) fl_X7_19 rfl rfl dX7_isLoad_6 rfl ?_
    refine j_get (v := .int (nI (t 2))) (pc' := 12) C KX1 1 2 rfl (by decide) fl_X7_233 rfl rfl dX7_isLoad_9 rfl ?_
    refine j_ic_ge (pc' := 15) C 19 dX7_isLoad_12 (by decide) rfl (fun c12 => ?_) (fun c12 => ?_)
    · refine j_iconst (v := (nI 0)) (pc' := 20) C dX7_isLoad_19 rfl (by decide +kernel) ?_
      refine j_top (bI false) (by decide +kernel) ?_
      exact j_iret C hr hk hA dX7_isLoad_20 (nrw_bI _) (⟨rfl, by rw [in_hi (by omega) c12]⟩)
    · refine j_iconst (v := (nI 1)) (pc' := 16) C dX7_isLoad_15 rfl (by decide +kernel) ?_
      refine j_goto C 20 dX7_isLoad_16 (by decide) ?_
      refine j_top (bI true) (by decide +kernel) ?_
      exact j_iret C hr hk hA dX7_isLoad_20 (nrw_bI _) (⟨rfl, by rw [in_ok (by omega) c1 c12]⟩)

set_option maxHeartbeats 4000000 in
set_option maxRecDepth 100000 in
theorem c_X7_isState {lch : Launch} {dG : va_G} {cyI cyZ cyO : ClassId} (v : Int32)  : Ki lch yX7_isState cX7_isState 1 .boolean (rmk 1) dG (cyI, cyZ, cyO) [.int v] [] (fun r w1 => w1 = [] ∧ r = (bI (inR v 16))) := by
  refine Ki.of (own := RX7) rfl (by decide) (Nat.le_of_ble_eq_true rfl) (fun p0 e0 s0 m0 ar0 be0 me0 cd0 A0 C hr hk hnm hA => ?_)
  refine j_lsub [(0, .int v)] [0] rfl ?_
  refine j_iload_n (pc' := 1) C dX7_isState_0 rfl 0 rfl ?_
  refine j_if_lt (pc' := 4) C 14 dX7_isState_1 (by decide) rfl (fun c1 => ?_) (fun c1 => ?_)
  · refine j_iconst (v := (nI 0)) (pc' := 15) C dX7_isState_14 rfl (by decide +kernel) ?_
    refine j_top (bI false) (by decide +kernel) ?_
    exact j_iret C hr hk hA dX7_isState_15 (nrw_bI _) (⟨rfl, by rw [in_lo c1]⟩)
  · refine j_iload_n (pc' := 5) C dX7_isState_4 rfl 0 rfl ?_
    refine j_bipush (v := (nI 16)) (pc' := 7) C dX7_isState_5 rfl (by decide +kernel) ?_
    refine j_ic_ge (pc' := 10) C 14 dX7_isState_7 (by decide) rfl (fun c7 => ?_) (fun c7 => ?_)
    · refine j_iconst (v := (nI 0)) (pc' := 15) C dX7_isState_14 rfl (by decide +kernel) ?_
      refine j_top (bI false) (by decide +kernel) ?_
      exact j_iret C hr hk hA dX7_isState_15 (nrw_bI _) (⟨rfl, by rw [in_hi (by omega) c7]⟩)
    · refine j_iconst (v := (nI 1)) (pc' := 11) C dX7_isState_10 rfl (by decide +kernel) ?_
      refine j_goto C 15 dX7_isState_11 (by decide) ?_
      refine j_top (bI true) (by decide +kernel) ?_
      exact j_iret C hr hk hA dX7_isState_15 (nrw_bI _) (⟨rfl, by rw [in_ok (by omega) c1 c7]⟩)

set_option maxHeartbeats 4000000 in
set_option maxRecDepth 100000 in
theorem c_X7_isImage {lch : Launch} {dG : va_G} {cyI cyZ cyO : ClassId} (v : Int32)  : Ki lch yX7_isImage cX7_isImage 1 .boolean (rmk 1) dG (cyI, cyZ, cyO) [.int v] [] (fun r w1 => w1 = [] ∧ r = (bI (inR v 2))) := by
  refine Ki.of (own := RX7) rfl (by decide) (Nat.le_of_ble_eq_true rfl) (fun p0 e0 s0 m0 ar0 be0 me0 cd0 A0 C hr hk hnm hA => ?_)
  refine j_lsub [(0, .int v)] [0] rfl ?_
  refine j_iload_n (pc' := 1) C dX7_isImage_0 rfl 0 rfl ?_
  refine j_if_lt (pc' := 4) C 13 dX7_isImage_1 (by decide) rfl (fun c1 => ?_) (fun c1 => ?_)
  · refine j_iconst (v := (nI 0)) (pc' := 14) C dX7_isImage_13 rfl (by decide +kernel) ?_
    refine j_top (bI false) (by decide +kernel) ?_
    exact j_iret C hr hk hA dX7_isImage_14 (nrw_bI _) (⟨rfl, by rw [in_lo c1]⟩)
  · refine j_iload_n (pc' := 5) C dX7_isImage_4 rfl 0 rfl ?_
    refine j_iconst (v := (nI 2)) (pc' := 6) C dX7_isImage_5 rfl (by decide +kernel) ?_
    refine j_ic_ge (pc' := 9) C 13 dX7_isImage_6 (by decide) rfl (fun c6 => ?_) (fun c6 => ?_)
    · refine j_iconst (v := (nI 0)) (pc' := 14) C dX7_isImage_13 rfl (by decide +kernel) ?_
      refine j_top (bI false) (by decide +kernel) ?_
      exact j_iret C hr hk hA dX7_isImage_14 (nrw_bI _) (⟨rfl, by rw [in_hi (by omega) c6]⟩)
    · refine j_iconst (v := (nI 1)) (pc' := 10) C dX7_isImage_9 rfl (by decide +kernel) ?_
      refine j_goto C 14 dX7_isImage_10 (by decide) ?_
      refine j_top (bI true) (by decide +kernel) ?_
      exact j_iret C hr hk hA dX7_isImage_14 (nrw_bI _) (⟨rfl, by rw [in_ok (by omega) c1 c6]⟩)

set_option maxHeartbeats 4000000 in
set_option maxRecDepth 100000 in
theorem c_X7_hasBit {lch : Launch} {dG : va_G} {cyI cyZ cyO : ClassId} (v : Nat) (k : Nat) (hv : v < 2147483648) (hk2 : k < 31) : Ki lch yX7_hasBit cX7_hasBit 2 .boolean (rmk 1) dG (cyI, cyZ, cyO) [.int (nI v), .int (nI k)] [] (fun r w1 => w1 = [] ∧ r = (bI (v.testBit k))) := by
  refine Ki.of (own := RX7) rfl (by decide) (Nat.le_of_ble_eq_true rfl) (fun p0 e0 s0 m0 ar0 be0 me0 cd0 A0 C hr hk hnm hA => ?_)
  refine j_lsub [(0, .int (nI v)), (1, .int (nI k))] [0, 1] rfl ?_
  refine j_iload_n (pc' := 1) C dX7_hasBit_0 rfl 0 rfl ?_
  refine j_iload_n (pc' := 2) C dX7_hasBit_1 rfl 1 rfl ?_
  refine j_ishr (v := (nI (v >>> k))) (pc' := 3) C dX7_hasBit_2 rfl (sh_r (by omega) (by omega)) ?_
  refine j_iconst (v := (nI 1)) (pc' := 4) C dX7_hasBit_3 rfl (by decide +kernel) ?_
  refine j_iand (v := (bI (Nat.testBit v k))) (pc' := 5) C dX7_hasBit_4 rfl (tb_bit _ _) ?_
  refine j_b_eq (pc' := 8) C 12 dX7_hasBit_5 (by decide) rfl (fun c5 => ?_) (fun c5 => ?_)
  · refine j_iconst (v := (nI 0)) (pc' := 13) C dX7_hasBit_12 rfl (by decide +kernel) ?_
    refine j_top (bI false) (by decide +kernel) ?_
    exact j_iret C hr hk hA dX7_hasBit_13 (nrw_bI _) (⟨rfl, by rw [c5]⟩)
  · refine j_iconst (v := (nI 1)) (pc' := 9) C dX7_hasBit_8 rfl (by decide +kernel) ?_
    refine j_goto C 13 dX7_hasBit_9 (by decide) ?_
    refine j_top (bI true) (by decide +kernel) ?_
    exact j_iret C hr hk hA dX7_hasBit_13 (nrw_bI _) (⟨rfl, by rw [c5]⟩)

set_option maxHeartbeats 4000000 in
set_option maxRecDepth 100000 in
theorem c_X7_choicesOfSwitch {lch : Launch} {dG : va_G} {cyI cyZ cyO : ClassId} (k : Nat) (hk2 : k < 10) : Ki lch yX7_choicesOfSwitch cX7_choicesOfSwitch 1 .int (rmk 1) dG (cyI, cyZ, cyO) [.int (nI k)] [] (fun r w1 => w1 = [] ∧ r = (nI (if k < 2 then 4 else 1))) := by
  refine Ki.of (own := RX7) rfl (by decide) (Nat.le_of_ble_eq_true rfl) (fun p0 e0 s0 m0 ar0 be0 me0 cd0 A0 C hr hk hnm hA => ?_)
  refine j_lsub [(0, .int (nI k))] [0] rfl ?_
  refine j_iload_n (pc' := 1) C dX7_choicesOfSwitch_0 rfl 0 rfl ?_
  refine j_iconst (v := (nI 1)) (pc' := 2) C dX7_choicesOfSwitch_1 rfl (by decide +kernel) ?_
  refine j_nc_gt (pc' := 5) C 9 dX7_choicesOfSwitch_2 (by decide) rfl (by omega) (by omega) (fun c2 => ?_) (fun c2 => ?_)
  · refine j_iconst (v := (nI 1)) (pc' := 10) C dX7_choicesOfSwitch_9 rfl (by decide +kernel) ?_
    exact j_iret C hr hk hA dX7_choicesOfSwitch_10 (rfl) (⟨rfl, by rw [if_neg (by omega)]⟩)
  · refine j_iconst (v := (nI 4)) (pc' := 6) C dX7_choicesOfSwitch_5 rfl (by decide +kernel) ?_
    refine j_goto C 10 dX7_choicesOfSwitch_6 (by decide) ?_
    exact j_iret C hr hk hA dX7_choicesOfSwitch_10 (rfl) (⟨rfl, by rw [if_pos (by omega)]⟩)

set_option maxHeartbeats 4000000 in
set_option maxRecDepth 100000 in
theorem c_X7_weight {lch : Launch} {dG : va_G} {cyI cyZ cyO : ClassId} (b : Nat) (k : Nat) (hk2 : k < 10) : Ki lch yX7_weight cX7_weight 4 .int (rmk 1) dG (cyI, cyZ, cyO) [.int (nI b), .int (nI k)] [] (fun r w1 => w1 = [] ∧ r = (nI (b ^ k))) := by
  refine Ki.of (own := RX7) rfl (by decide) (Nat.le_of_ble_eq_true rfl) (fun p0 e0 s0 m0 ar0 be0 me0 cd0 A0 C hr hk hnm hA => ?_)
  refine j_lsub [(0, .int (nI b)), (1, .int (nI k))] [0, 1] rfl ?_
  refine j_iconst (v := (nI 1)) (pc' := 1) C dX7_weight_0 rfl (by decide +kernel) ?_
  refine j_istore_n (pc' := 2) C [(2, .int (nI 1)), (0, .int (nI b)), (1, .int (nI k))] dX7_weight_1 rfl (by decide) rfl ?_
  refine j_iconst (v := (nI 0)) (pc' := 3) C dX7_weight_2 rfl (by decide +kernel) ?_
  refine j_istore_n (pc' := 4) C [(3, .int (nI 0)), (2, .int (nI 1)), (0, .int (nI b)), (1, .int (nI k))] dX7_weight_3 rfl (by decide) rfl ?_
  refine j_lsub [(0, .int (nI b)), (1, .int (nI k)), (2, .int (nI 1)), (3, .int (nI 0))] [2, 3, 1, 0] rfl ?_
  refine j_loop2 (fun (i : Nat) (z : Nat) => []) (fun (i : Nat) (z : Nat) => [(0, .int (nI b)), (1, .int (nI k)), (2, .int (nI z)), (3, .int (nI i))]) (fun (i : Nat) (z : Nat) => []) (fun (i : Nat) (z : Nat) => i ≤ k ∧ z = b ^ i) (fun (i : Nat) (z : Nat) => k - i) ?_ 0 1 ?_
  · intro i z hI4 ih4
    obtain ⟨hi, hz⟩ := hI4
    refine j_iload_n (pc' := 5) C dX7_weight_4 rfl 3 rfl ?_
    refine j_iload_n (pc' := 6) C dX7_weight_5 rfl 1 rfl ?_
    refine j_nc_ge (pc' := 9) C 19 dX7_weight_6 (by decide) rfl (by omega) (by omega) (fun c6 => ?_) (fun c6 => ?_)
    · refine j_iload_n (pc' := 20) C dX7_weight_19 rfl 2 rfl ?_
      exact j_iret C hr hk hA dX7_weight_20 (rfl) (⟨rfl, by rw [hz, show i = k by omega]⟩)
    · refine j_iload_n (pc' := 10) C dX7_weight_9 rfl 2 rfl ?_
      refine j_iload_n (pc' := 11) C dX7_weight_10 rfl 0 rfl ?_
      refine j_imul (v := (nI (z * b))) (pc' := 12) C dX7_weight_11 rfl (pk_mul z b) ?_
      refine j_istore_n (pc' := 13) C [(2, .int (nI (z * b))), (0, .int (nI b)), (1, .int (nI k)), (3, .int (nI i))] dX7_weight_12 rfl (by decide) rfl ?_
      refine j_iinc (v := (nI (i + 1))) (pc' := 16) C [(3, .int (nI (i + 1))), (2, .int (nI (z * b))), (0, .int (nI b)), (1, .int (nI k))] dX7_weight_13 rfl 3 rfl (inc_n i 1) (by decide) rfl ?_
      refine j_goto C 4 dX7_weight_16 (by decide) ?_
      refine j_lsub [(0, .int (nI b)), (1, .int (nI k)), (2, .int (nI (z * b))), (3, .int (nI (i + 1)))] [2, 3, 1, 0] rfl ?_
      exact ih4 (i + 1) (z * b) (⟨by omega, by rw [hz, Nat.pow_succ]⟩) (by omega)
  · exact ⟨Nat.zero_le _, rfl⟩

set_option maxHeartbeats 4000000 in
set_option maxRecDepth 100000 in
theorem c_X7_type {lch : Launch} {dG : va_G} {cyI cyZ cyO : ClassId} (a0 : Nat) (aR : Nat) (aN : Nat) (aO : Nat) (aH : Nat) (aE : Nat) (aW : Nat) (aK : Nat) (aIm : Nat) (aKp : Nat) (aMb : Nat) (aD : Nat) (tn : Nat) (aX : Nat) (ra : Int32) (rt : Int32) (rp : Int32) (x : Nat → Nat) (v : Int32) (hn : tn ≤ 100) : Ki lch yX7_type cX7_type 2 .int (rmk 2) dG (cyI, cyZ, cyO) [.ref a0, .int v] [(a0, .inr (7, [.ref aR, .ref aN, .ref aO, .ref aH, .ref aE, .ref aW, .ref aK, .ref aIm, .ref aKp, .ref aMb])), (aR, .inr (2, [.ref aD, .int (nI tn), .ref aX, .int ra, .int rt, .int rp])), (aX, .inl (cyI, 100, .inl (nA x)))] (fun r w1 => ∃ (x1 : Nat → Nat), ∃ (n1 : Nat), w1 = [(a0, .inr (7, [.ref aR, .ref aN, .ref aO, .ref aH, .ref aE, .ref aW, .ref aK, .ref aIm, .ref aKp, .ref aMb])), (aR, .inr (2, [.ref aD, .int (nI n1), .ref aX, .int ra, .int rt, .int rp])), (aX, .inl (cyI, 100, .inl (nA x1)))] ∧ (r, x1, n1) = tyQ x tn v) := by
  refine Ki.of (own := RX7) rfl (by decide) (Nat.le_of_ble_eq_true rfl) (fun p0 e0 s0 m0 ar0 be0 me0 cd0 A0 C hr hk hnm hA => ?_)
  refine j_lsub [(0, .ref a0), (1, .int v)] [0, 1] rfl ?_
  refine j_iload_n (pc' := 1) C dX7_type_0 rfl 1 rfl ?_
  refine j_if_lt (pc' := 4) C 11 dX7_type_1 (by decide) rfl (fun c1 => ?_) (fun c1 => ?_)
  · refine j_iconst (v := (-1)) (pc' := 12) C dX7_type_11 rfl (by decide +kernel) ?_
    exact j_iret C hr hk hA dX7_type_12 (rfl) (⟨_, _, rfl, by unfold tyQ; rw [if_pos (in_lo c1)]⟩)
  · refine j_iload_n (pc' := 5) C dX7_type_4 rfl 1 rfl ?_
    refine j_sipush (v := (nI 255)) (pc' := 8) C dX7_type_5 rfl (by decide +kernel) ?_
    refine j_ic_le (pc' := 11) C 13 dX7_type_8 (by decide) rfl (fun c8 => ?_) (fun c8 => ?_)
    · obtain ⟨j, hj, rfl⟩ := inR_t (in_ok2 (a := 255) (by decide) c1 c8) (by decide)
      have hin := inR_n (j := j) (n := 256) hj (by decide)
      refine j_aload_n (pc' := 14) C dX7_type_13 rfl 0 rfl ?_
      refine j_get (v := .ref aR) (pc' := 17) C KX7 0 0 rfl (by decide) fl_X7_10 rfl rfl dX7_type_14 rfl ?_
      refine j_iload_n (pc' := 18) C dX7_type_17 rfl 1 rfl ?_
      refine j_cVi (As := [.int (nI j)]) (wr := [(a0, .inr (7, [.ref aR, .ref aN, .ref aO, .ref aH, .ref aE, .ref aW, .ref aK, .ref aIm, .ref aKp, .ref aMb]))]) (pc' := 21) C (c_X2_append (aR := aR) (aD := aD) (aX := aX) (ra := ra) (rt := rt) (rp := rp) (x := x) (n := tn) (v := j) (hn := by first | assumption | omega)) Y_X2_append (ml_X7_74) [1, 2] [0] rfl rfl rfl rfl (by decide) rfl rfl rfl dX7_type_18 rfl rfl rfl (Nat.le_of_ble_eq_true rfl) ⟨Nat.le_of_ble_eq_true rfl, Nat.le_of_ble_eq_true rfl⟩ ⟨Nat.le_of_ble_eq_true rfl, Nat.le_of_ble_eq_true rfl⟩ ⟨rfl, rfl⟩ (fun r1 w1 hQ => ?_)
      obtain ⟨x1_1, n1_1, b_1, rfl, rfl, hF18⟩ := hQ
      refine j_perm [(a0, .inr (7, [.ref aR, .ref aN, .ref aO, .ref aH, .ref aE, .ref aW, .ref aK, .ref aIm, .ref aKp, .ref aMb])), (aR, .inr (2, [.ref aD, .int (nI n1_1), .ref aX, .int ra, .int rt, .int rp])), (aX, .inl (cyI, 100, .inl (nA x1_1)))] [0, 1, 2] rfl rfl (by decide) ?_
      refine j_b_eq (pc' := 24) C 34 dX7_type_21 (by decide) rfl (fun c21 => ?_) (fun c21 => ?_)
      · refine j_bipush (v := (-3)) (pc' := 36) C dX7_type_34 rfl (by decide +kernel) ?_
        exact j_iret C hr hk hA dX7_type_36 (rfl) (⟨_, _, rfl, by
          rcases hF18 with ⟨q1, q2, q3, q4⟩ | ⟨q1, q2, q3, q4⟩
          · first | (rw [c21] at q1; cases q1; done) | (unfold tyQ; rw [if_neg (by rw [hin]; decide), if_pos q2, q3, q4])
          · first | (rw [c21] at q1; cases q1; done) | (unfold tyQ; rw [if_neg (by rw [hin]; decide), if_neg (by omega), q3, q4, nI_clamp (by omega)])⟩)
      · refine j_aload_n (pc' := 25) C dX7_type_24 rfl 0 rfl ?_
        refine j_get (v := .ref aR) (pc' := 28) C KX7 0 0 rfl (by decide) fl_X7_10 rfl rfl dX7_type_25 rfl ?_
        refine j_get (v := .int (nI n1_1)) (pc' := 31) C KX2 1 1 rfl (by decide) fl_X7_78 rfl rfl dX7_type_28 rfl ?_
        refine j_goto C 36 dX7_type_31 (by decide) ?_
        exact j_iret C hr hk hA dX7_type_36 (rfl) (⟨_, _, rfl, by
          rcases hF18 with ⟨q1, q2, q3, q4⟩ | ⟨q1, q2, q3, q4⟩
          · first | (rw [c21] at q1; cases q1; done) | (unfold tyQ; rw [if_neg (by rw [hin]; decide), if_pos q2, q3, q4])
          · first | (rw [c21] at q1; cases q1; done) | (unfold tyQ; rw [if_neg (by rw [hin]; decide), if_neg (by omega), q3, q4, nI_clamp (by omega)])⟩)
    · refine j_iconst (v := (-1)) (pc' := 12) C dX7_type_11 rfl (by decide +kernel) ?_
      exact j_iret C hr hk hA dX7_type_12 (rfl) (⟨_, _, rfl, by unfold tyQ; rw [if_pos (in_hi2 (a := 255) (by decide) c8)]⟩)

set_option maxHeartbeats 4000000 in
set_option maxRecDepth 100000 in
theorem c_X7_clear {lch : Launch} {dG : va_G} {cyI cyZ cyO : ClassId} (a0 : Nat) (aR : Nat) (aN : Nat) (aO : Nat) (aH : Nat) (aE : Nat) (aW : Nat) (aK : Nat) (aIm : Nat) (aKp : Nat) (aMb : Nat) (aD : Nat) (tn : Nat) (aX : Nat) (ra : Int32) (rt : Int32) (rp : Int32)  : Ki lch yX7_clear cX7_clear 2 .int (rmk 1) dG (cyI, cyZ, cyO) [.ref a0] [(a0, .inr (7, [.ref aR, .ref aN, .ref aO, .ref aH, .ref aE, .ref aW, .ref aK, .ref aIm, .ref aKp, .ref aMb])), (aR, .inr (2, [.ref aD, .int (nI tn), .ref aX, .int ra, .int rt, .int rp]))] (fun r w1 => w1 = [(a0, .inr (7, [.ref aR, .ref aN, .ref aO, .ref aH, .ref aE, .ref aW, .ref aK, .ref aIm, .ref aKp, .ref aMb])), (aR, .inr (2, [.ref aD, .int (nI 0), .ref aX, .int ra, .int rt, .int rp]))] ∧ r = (nI tn)) := by
  refine Ki.of (own := RX7) rfl (by decide) (Nat.le_of_ble_eq_true rfl) (fun p0 e0 s0 m0 ar0 be0 me0 cd0 A0 C hr hk hnm hA => ?_)
  refine j_lsub [(0, .ref a0)] [0] rfl ?_
  refine j_aload_n (pc' := 1) C dX7_clear_0 rfl 0 rfl ?_
  refine j_get (v := .ref aR) (pc' := 4) C KX7 0 0 rfl (by decide) fl_X7_10 rfl rfl dX7_clear_1 rfl ?_
  refine j_get (v := .int (nI tn)) (pc' := 7) C KX2 1 1 rfl (by decide) fl_X7_78 rfl rfl dX7_clear_4 rfl ?_
  refine j_istore_n (pc' := 8) C [(1, .int (nI tn)), (0, .ref a0)] dX7_clear_7 rfl (by decide) rfl ?_
  refine j_aload_n (pc' := 9) C dX7_clear_8 rfl 1 rfl ?_
  refine j_get (v := .ref aR) (pc' := 12) C KX7 0 0 rfl (by decide) fl_X7_10 rfl rfl dX7_clear_9 rfl ?_
  refine j_iconst (v := (nI 0)) (pc' := 13) C dX7_clear_12 rfl (by decide +kernel) ?_
  refine j_put (pc' := 16) C [(a0, .inr (7, [.ref aR, .ref aN, .ref aO, .ref aH, .ref aE, .ref aW, .ref aK, .ref aIm, .ref aKp, .ref aMb])), (aR, .inr (2, [.ref aD, .int (nI 0), .ref aX, .int ra, .int rt, .int rp]))] KX2 1 1 rfl (by decide) fl_X7_78 rfl rfl rfl rfl (Nat.le_of_ble_eq_true rfl) dX7_clear_13 rfl rfl ?_
  refine j_iload_n (pc' := 17) C dX7_clear_16 rfl 0 rfl ?_
  exact j_iret C hr hk hA dX7_clear_17 (rfl) (⟨rfl, rfl⟩)

set_option maxHeartbeats 4000000 in
set_option maxRecDepth 100000 in
theorem c_X7_fedNow {lch : Launch} {dG : va_G} {cyI cyZ cyO : ClassId} (a0 : Nat) (aR : Nat) (aN : Nat) (aO : Nat) (aH : Nat) (aE : Nat) (aW : Nat) (aK : Nat) (aIm : Nat) (aKp : Nat) (aMb : Nat) (t : Nat → Nat) (aKd : Nat) (aFi : Nat) (aSe : Nat) (aSb : Nat) (aLd : Nat) (kd : Nat → Nat) (fi : Nat → Nat) (se : Nat → Nat) (sb : Nat → Nat) (ld : Nat → Nat) (aWi : Nat) (aCu : Nat) (aCb : Nat) (aSk : Nat) (wi : Nat → Nat) (cu : Nat → Nat) (cb : Nat → Nat) (sk : Nat → Nat) (aSh : Nat) (aFo : Nat) (aBa : Nat) (aRc : Nat) (gr : Bool) (sh : Nat → Nat) (fo : Nat → Bool) (ba : Nat → Bool) (rc : Nat → Nat) (s : Nat → Nat) (l : Nat) (hT : WT t) (hS : WS s) (hN : RN t kd fi se sb ld) (hR : RS s wi cu cb sk) (hl : l < t 2) : Ki lch yX7_fedNow cX7_fedNow 2 .int (rmk 5) dG (cyI, cyZ, cyO) [.ref a0, .int (nI l)] [(a0, .inr (7, [.ref aR, .ref aN, .ref aO, .ref aH, .ref aE, .ref aW, .ref aK, .ref aIm, .ref aKp, .ref aMb])), (aN, .inr (1, [.int (nI (t 0)), .int (nI (t 1)), .int (nI (t 2)), .ref aKd, .ref aFi, .ref aSe, .ref aSb, .ref aLd])), (aKd, .inl (cyI, 9, .inl (nA kd))), (aFi, .inl (cyI, 9, .inl (nA fi))), (aSe, .inl (cyI, 9, .inl (nA se))), (aSb, .inl (cyI, 9, .inl (nA sb))), (aLd, .inl (cyI, 3, .inl (nA ld))), (aO, .inr (4, [.ref aWi, .ref aCu, .ref aCb, .ref aSk])), (aWi, .inl (cyI, 3, .inl (nA wi))), (aCu, .inl (cyI, 9, .inl (nA cu))), (aCb, .inl (cyI, 9, .inl (nA cb))), (aSk, .inl (cyI, 9, .inl (nA sk))), (aW, .inr (6, [.ref aSh, .ref aN, .ref aO, .ref aFo, .ref aBa, .ref aRc, .int (bI gr)])), (aSh, .inl (cyI, 9, .inl (nA sh))), (aFo, .inl (cyZ, 9, .inl (bA fo))), (aBa, .inl (cyZ, 9, .inl (bA ba))), (aRc, .inl (cyI, 7, .inl (nA rc)))] (fun r w1 => ∃ (sh1 : Nat → Nat), ∃ (fo1 : Nat → Bool), ∃ (ba1 : Nat → Bool), ∃ (rc1 : Nat → Nat), ∃ (g1 : Bool), w1 = [(a0, .inr (7, [.ref aR, .ref aN, .ref aO, .ref aH, .ref aE, .ref aW, .ref aK, .ref aIm, .ref aKp, .ref aMb])), (aN, .inr (1, [.int (nI (t 0)), .int (nI (t 1)), .int (nI (t 2)), .ref aKd, .ref aFi, .ref aSe, .ref aSb, .ref aLd])), (aKd, .inl (cyI, 9, .inl (nA kd))), (aFi, .inl (cyI, 9, .inl (nA fi))), (aSe, .inl (cyI, 9, .inl (nA se))), (aSb, .inl (cyI, 9, .inl (nA sb))), (aLd, .inl (cyI, 3, .inl (nA ld))), (aO, .inr (4, [.ref aWi, .ref aCu, .ref aCb, .ref aSk])), (aWi, .inl (cyI, 3, .inl (nA wi))), (aCu, .inl (cyI, 9, .inl (nA cu))), (aCb, .inl (cyI, 9, .inl (nA cb))), (aSk, .inl (cyI, 9, .inl (nA sk))), (aW, .inr (6, [.ref aSh, .ref aN, .ref aO, .ref aFo, .ref aBa, .ref aRc, .int (bI g1)])), (aSh, .inl (cyI, 9, .inl (nA sh1))), (aFo, .inl (cyZ, 9, .inl (bA fo1))), (aBa, .inl (cyZ, 9, .inl (bA ba1))), (aRc, .inl (cyI, 7, .inl (nA rc1)))] ∧ r = (nI (fedN t s l))) := by
  have h1 := hT.n
  have hkd : ∀ c, c < t 1 → kd c = t (3 + c) := fun c hc => (hN.1 c hc).1
  have hfi : ∀ c, c < t 1 → fi c = t (12 + c) := fun c hc => (hN.1 c hc).2.1
  have hse : ∀ c, c < t 1 → se c = t (21 + c) := fun c hc => (hN.1 c hc).2.2.1
  have hsb : ∀ c, c < t 1 → sb c = t (30 + c) := fun c hc => (hN.1 c hc).2.2.2
  have hld : ∀ l, l < t 2 → ld l = t (39 + l) := hN.2
  have hwi : ∀ l, l < 3 → wi l = s l := hR.1
  have hcu : ∀ c, c < 9 → cu c = s (3 + c) := fun c hc => (hR.2 c hc).1
  have hcb : ∀ c, c < 9 → cb c = s (12 + c) := fun c hc => (hR.2 c hc).2.1
  have hsk : ∀ c, c < 9 → sk c = s (21 + c) := fun c hc => (hR.2 c hc).2.2
  refine Ki.of (own := RX7) rfl (by decide) (Nat.le_of_ble_eq_true rfl) (fun p0 e0 s0 m0 ar0 be0 me0 cd0 A0 C hr hk hnm hA => ?_)
  refine j_lsub [(0, .ref a0), (1, .int (nI l))] [0, 1] rfl ?_
  refine j_aload_n (pc' := 1) C dX7_fedNow_0 rfl 0 rfl ?_
  refine j_get (v := .ref aW) (pc' := 4) C KX7 0 5 rfl (by decide) fl_X7_49 rfl rfl dX7_fedNow_1 rfl ?_
  refine j_cVv (As := []) (wr := [(a0, .inr (7, [.ref aR, .ref aN, .ref aO, .ref aH, .ref aE, .ref aW, .ref aK, .ref aIm, .ref aKp, .ref aMb])), (aFi, .inl (cyI, 9, .inl (nA fi))), (aSe, .inl (cyI, 9, .inl (nA se))), (aLd, .inl (cyI, 3, .inl (nA ld))), (aWi, .inl (cyI, 3, .inl (nA wi))), (aRc, .inl (cyI, 7, .inl (nA rc)))]) (pc' := 7) C (c_X6_layAll (aW := aW) (aSh := aSh) (aN := aN) (aO := aO) (aFo := aFo) (aBa := aBa) (aRc := aRc) (gr := gr) (sh := sh) (fo := fo) (ba := ba) (t := t) (aKd := aKd) (aFi := aFi) (aSe := aSe) (aSb := aSb) (aLd := aLd) (kd := kd) (sb := sb) (aWi := aWi) (aCu := aCu) (aCb := aCb) (aSk := aSk) (cu := cu) (cb := cb) (sk := sk) (s := s) (hT := by first | assumption | omega) (hS := by first | assumption | omega) (hkd := by first | assumption | omega) (hsb := by first | assumption | omega) (hcu := by first | assumption | omega) (hcb := by first | assumption | omega) (hsk := by first | assumption | omega)) Y_X6_layAll (ml_X7_157) [12, 13, 14, 15, 1, 2, 5, 7, 9, 10, 11] [0, 3, 4, 6, 8, 16] rfl rfl rfl rfl (by decide) rfl rfl rfl dX7_fedNow_4 rfl rfl rfl (Nat.le_of_ble_eq_true rfl) ⟨Nat.le_of_ble_eq_true rfl, Nat.le_of_ble_eq_true rfl⟩ ⟨Nat.le_of_ble_eq_true rfl, Nat.le_of_ble_eq_true rfl⟩ ⟨rfl, rfl⟩ (fun w1 hQ => ?_)
  obtain ⟨sh1_1, fo1_1, ba1_1, rfl, hF4⟩ := hQ
  refine j_perm [(a0, .inr (7, [.ref aR, .ref aN, .ref aO, .ref aH, .ref aE, .ref aW, .ref aK, .ref aIm, .ref aKp, .ref aMb])), (aN, .inr (1, [.int (nI (t 0)), .int (nI (t 1)), .int (nI (t 2)), .ref aKd, .ref aFi, .ref aSe, .ref aSb, .ref aLd])), (aKd, .inl (cyI, 9, .inl (nA kd))), (aFi, .inl (cyI, 9, .inl (nA fi))), (aSe, .inl (cyI, 9, .inl (nA se))), (aSb, .inl (cyI, 9, .inl (nA sb))), (aLd, .inl (cyI, 3, .inl (nA ld))), (aO, .inr (4, [.ref aWi, .ref aCu, .ref aCb, .ref aSk])), (aWi, .inl (cyI, 3, .inl (nA wi))), (aCu, .inl (cyI, 9, .inl (nA cu))), (aCb, .inl (cyI, 9, .inl (nA cb))), (aSk, .inl (cyI, 9, .inl (nA sk))), (aW, .inr (6, [.ref aSh, .ref aN, .ref aO, .ref aFo, .ref aBa, .ref aRc, .int (bI gr)])), (aSh, .inl (cyI, 9, .inl (nA sh1_1))), (aFo, .inl (cyZ, 9, .inl (bA fo1_1))), (aBa, .inl (cyZ, 9, .inl (bA ba1_1))), (aRc, .inl (cyI, 7, .inl (nA rc)))] [0, 10, 11, 1, 2, 12, 3, 13, 4, 14, 15, 16, 6, 7, 8, 9, 5] rfl rfl (by decide) ?_
  refine j_aload_n (pc' := 8) C dX7_fedNow_7 rfl 0 rfl ?_
  refine j_get (v := .ref aW) (pc' := 11) C KX7 0 5 rfl (by decide) fl_X7_49 rfl rfl dX7_fedNow_8 rfl ?_
  refine j_iconst (v := (nI 0)) (pc' := 12) C dX7_fedNow_11 rfl (by decide +kernel) ?_
  refine j_cVv (As := [.int (nI 0)]) (wr := [(a0, .inr (7, [.ref aR, .ref aN, .ref aO, .ref aH, .ref aE, .ref aW, .ref aK, .ref aIm, .ref aKp, .ref aMb])), (aKd, .inl (cyI, 9, .inl (nA kd))), (aSb, .inl (cyI, 9, .inl (nA sb))), (aLd, .inl (cyI, 3, .inl (nA ld))), (aO, .inr (4, [.ref aWi, .ref aCu, .ref aCb, .ref aSk])), (aWi, .inl (cyI, 3, .inl (nA wi))), (aCu, .inl (cyI, 9, .inl (nA cu))), (aCb, .inl (cyI, 9, .inl (nA cb))), (aSk, .inl (cyI, 9, .inl (nA sk)))]) (pc' := 15) C (c_X6_spread (aW := aW) (aSh := aSh) (aN := aN) (aO := aO) (aFo := aFo) (aBa := aBa) (aRc := aRc) (gr := gr) (sh := sh1_1) (fo := fo1_1) (ba := ba1_1) (rc := rc) (t := t) (aKd := aKd) (aFi := aFi) (aSe := aSe) (aSb := aSb) (aLd := aLd) (fi := fi) (se := se) (s := s) (wo := 0) (hT := by first | assumption | omega) (hfi := by first | assumption | omega) (hse := by first | assumption | omega) (hL := hF4) (hwo := by decide)) Y_X6_spread (ml_X7_217) [12, 13, 14, 15, 16, 1, 3, 4] [0, 2, 5, 6, 7, 8, 9, 10, 11] rfl rfl rfl rfl (by decide) rfl rfl rfl dX7_fedNow_12 rfl rfl rfl (Nat.le_of_ble_eq_true rfl) ⟨Nat.le_of_ble_eq_true rfl, Nat.le_of_ble_eq_true rfl⟩ ⟨Nat.le_of_ble_eq_true rfl, Nat.le_of_ble_eq_true rfl⟩ ⟨rfl, rfl⟩ (fun w1 hQ => ?_)
  obtain ⟨rc1_2, g1_2, rfl, hF12⟩ := hQ
  refine j_perm [(a0, .inr (7, [.ref aR, .ref aN, .ref aO, .ref aH, .ref aE, .ref aW, .ref aK, .ref aIm, .ref aKp, .ref aMb])), (aN, .inr (1, [.int (nI (t 0)), .int (nI (t 1)), .int (nI (t 2)), .ref aKd, .ref aFi, .ref aSe, .ref aSb, .ref aLd])), (aKd, .inl (cyI, 9, .inl (nA kd))), (aFi, .inl (cyI, 9, .inl (nA fi))), (aSe, .inl (cyI, 9, .inl (nA se))), (aSb, .inl (cyI, 9, .inl (nA sb))), (aLd, .inl (cyI, 3, .inl (nA ld))), (aO, .inr (4, [.ref aWi, .ref aCu, .ref aCb, .ref aSk])), (aWi, .inl (cyI, 3, .inl (nA wi))), (aCu, .inl (cyI, 9, .inl (nA cu))), (aCb, .inl (cyI, 9, .inl (nA cb))), (aSk, .inl (cyI, 9, .inl (nA sk))), (aW, .inr (6, [.ref aSh, .ref aN, .ref aO, .ref aFo, .ref aBa, .ref aRc, .int (bI g1_2)])), (aSh, .inl (cyI, 9, .inl (nA sh1_1))), (aFo, .inl (cyZ, 9, .inl (bA fo1_1))), (aBa, .inl (cyZ, 9, .inl (bA ba1_1))), (aRc, .inl (cyI, 7, .inl (nA rc1_2)))] [0, 14, 1, 15, 16, 2, 3, 4, 5, 6, 7, 8, 9, 10, 11, 12, 13] rfl rfl (by decide) ?_
  refine j_aload_n (pc' := 16) C dX7_fedNow_15 rfl 0 rfl ?_
  refine j_get (v := .ref aW) (pc' := 19) C KX7 0 5 rfl (by decide) fl_X7_49 rfl rfl dX7_fedNow_16 rfl ?_
  refine j_iload_n (pc' := 20) C dX7_fedNow_19 rfl 1 rfl ?_
  refine j_cVi (As := [.int (nI l)]) (wr := [(a0, .inr (7, [.ref aR, .ref aN, .ref aO, .ref aH, .ref aE, .ref aW, .ref aK, .ref aIm, .ref aKp, .ref aMb])), (aKd, .inl (cyI, 9, .inl (nA kd))), (aFi, .inl (cyI, 9, .inl (nA fi))), (aSe, .inl (cyI, 9, .inl (nA se))), (aSb, .inl (cyI, 9, .inl (nA sb))), (aO, .inr (4, [.ref aWi, .ref aCu, .ref aCb, .ref aSk])), (aWi, .inl (cyI, 3, .inl (nA wi))), (aCu, .inl (cyI, 9, .inl (nA cu))), (aCb, .inl (cyI, 9, .inl (nA cb))), (aSk, .inl (cyI, 9, .inl (nA sk))), (aSh, .inl (cyI, 9, .inl (nA sh1_1))), (aFo, .inl (cyZ, 9, .inl (bA fo1_1))), (aBa, .inl (cyZ, 9, .inl (bA ba1_1)))]) (pc' := 23) C (c_X6_fed (aW := aW) (aSh := aSh) (aN := aN) (aO := aO) (aFo := aFo) (aBa := aBa) (aRc := aRc) (gr := g1_2) (rc := rc1_2) (t := t) (aKd := aKd) (aFi := aFi) (aSe := aSe) (aSb := aSb) (aLd := aLd) (ld := ld) (l := l) (hT := by first | assumption | omega) (hld := by first | assumption | omega) (hl := by first | assumption | omega)) Y_X6_fed (ml_X7_242) [12, 16, 1, 6] [0, 2, 3, 4, 5, 7, 8, 9, 10, 11, 13, 14, 15] rfl rfl rfl rfl (by decide) rfl rfl rfl dX7_fedNow_20 rfl rfl rfl (Nat.le_of_ble_eq_true rfl) ⟨Nat.le_of_ble_eq_true rfl, Nat.le_of_ble_eq_true rfl⟩ ⟨Nat.le_of_ble_eq_true rfl, Nat.le_of_ble_eq_true rfl⟩ ⟨rfl, rfl⟩ (fun r3 w1 hQ => ?_)
  obtain ⟨rfl, rfl⟩ := hQ
  refine j_perm [(a0, .inr (7, [.ref aR, .ref aN, .ref aO, .ref aH, .ref aE, .ref aW, .ref aK, .ref aIm, .ref aKp, .ref aMb])), (aN, .inr (1, [.int (nI (t 0)), .int (nI (t 1)), .int (nI (t 2)), .ref aKd, .ref aFi, .ref aSe, .ref aSb, .ref aLd])), (aKd, .inl (cyI, 9, .inl (nA kd))), (aFi, .inl (cyI, 9, .inl (nA fi))), (aSe, .inl (cyI, 9, .inl (nA se))), (aSb, .inl (cyI, 9, .inl (nA sb))), (aLd, .inl (cyI, 3, .inl (nA ld))), (aO, .inr (4, [.ref aWi, .ref aCu, .ref aCb, .ref aSk])), (aWi, .inl (cyI, 3, .inl (nA wi))), (aCu, .inl (cyI, 9, .inl (nA cu))), (aCb, .inl (cyI, 9, .inl (nA cb))), (aSk, .inl (cyI, 9, .inl (nA sk))), (aW, .inr (6, [.ref aSh, .ref aN, .ref aO, .ref aFo, .ref aBa, .ref aRc, .int (bI g1_2)])), (aSh, .inl (cyI, 9, .inl (nA sh1_1))), (aFo, .inl (cyZ, 9, .inl (bA fo1_1))), (aBa, .inl (cyZ, 9, .inl (bA ba1_1))), (aRc, .inl (cyI, 7, .inl (nA rc1_2)))] [0, 15, 1, 2, 3, 4, 16, 5, 6, 7, 8, 9, 13, 10, 11, 12, 14] rfl rfl (by decide) ?_
  exact j_iret C hr hk hA dX7_fedNow_23 (rfl) (⟨_, _, _, _, _, rfl, by rw [RcK_fed hT hF12 hl]⟩)

set_option maxHeartbeats 4000000 in
set_option maxRecDepth 100000 in
theorem c_X7_wishWhatIsFed {lch : Launch} {dG : va_G} {cyI cyZ cyO : ClassId} (a0 : Nat) (aR : Nat) (aN : Nat) (aO : Nat) (aH : Nat) (aE : Nat) (aW : Nat) (aK : Nat) (aIm : Nat) (aKp : Nat) (aMb : Nat) (t : Nat → Nat) (aKd : Nat) (aFi : Nat) (aSe : Nat) (aSb : Nat) (aLd : Nat) (kd : Nat → Nat) (fi : Nat → Nat) (se : Nat → Nat) (sb : Nat → Nat) (ld : Nat → Nat) (aWi : Nat) (aCu : Nat) (aCb : Nat) (aSk : Nat) (wi : Nat → Nat) (cu : Nat → Nat) (cb : Nat → Nat) (sk : Nat → Nat) (aSh : Nat) (aFo : Nat) (aBa : Nat) (aRc : Nat) (gr : Bool) (sh : Nat → Nat) (fo : Nat → Bool) (ba : Nat → Bool) (rc : Nat → Nat) (hT : WT t) (hN : RN t kd fi se sb ld) (hR : RS s0N wi cu cb sk) : Kv lch yX7_wishWhatIsFed cX7_wishWhatIsFed 2 (rmk 5) dG (cyI, cyZ, cyO) [.ref a0] [(a0, .inr (7, [.ref aR, .ref aN, .ref aO, .ref aH, .ref aE, .ref aW, .ref aK, .ref aIm, .ref aKp, .ref aMb])), (aN, .inr (1, [.int (nI (t 0)), .int (nI (t 1)), .int (nI (t 2)), .ref aKd, .ref aFi, .ref aSe, .ref aSb, .ref aLd])), (aKd, .inl (cyI, 9, .inl (nA kd))), (aFi, .inl (cyI, 9, .inl (nA fi))), (aSe, .inl (cyI, 9, .inl (nA se))), (aSb, .inl (cyI, 9, .inl (nA sb))), (aLd, .inl (cyI, 3, .inl (nA ld))), (aO, .inr (4, [.ref aWi, .ref aCu, .ref aCb, .ref aSk])), (aWi, .inl (cyI, 3, .inl (nA wi))), (aCu, .inl (cyI, 9, .inl (nA cu))), (aCb, .inl (cyI, 9, .inl (nA cb))), (aSk, .inl (cyI, 9, .inl (nA sk))), (aW, .inr (6, [.ref aSh, .ref aN, .ref aO, .ref aFo, .ref aBa, .ref aRc, .int (bI gr)])), (aSh, .inl (cyI, 9, .inl (nA sh))), (aFo, .inl (cyZ, 9, .inl (bA fo))), (aBa, .inl (cyZ, 9, .inl (bA ba))), (aRc, .inl (cyI, 7, .inl (nA rc)))] (fun w1 => ∃ (wi1 : Nat → Nat), ∃ (sh1 : Nat → Nat), ∃ (fo1 : Nat → Bool), ∃ (ba1 : Nat → Bool), ∃ (rc1 : Nat → Nat), ∃ (g1 : Bool), w1 = [(a0, .inr (7, [.ref aR, .ref aN, .ref aO, .ref aH, .ref aE, .ref aW, .ref aK, .ref aIm, .ref aKp, .ref aMb])), (aN, .inr (1, [.int (nI (t 0)), .int (nI (t 1)), .int (nI (t 2)), .ref aKd, .ref aFi, .ref aSe, .ref aSb, .ref aLd])), (aKd, .inl (cyI, 9, .inl (nA kd))), (aFi, .inl (cyI, 9, .inl (nA fi))), (aSe, .inl (cyI, 9, .inl (nA se))), (aSb, .inl (cyI, 9, .inl (nA sb))), (aLd, .inl (cyI, 3, .inl (nA ld))), (aO, .inr (4, [.ref aWi, .ref aCu, .ref aCb, .ref aSk])), (aWi, .inl (cyI, 3, .inl (nA wi1))), (aCu, .inl (cyI, 9, .inl (nA cu))), (aCb, .inl (cyI, 9, .inl (nA cb))), (aSk, .inl (cyI, 9, .inl (nA sk))), (aW, .inr (6, [.ref aSh, .ref aN, .ref aO, .ref aFo, .ref aBa, .ref aRc, .int (bI g1)])), (aSh, .inl (cyI, 9, .inl (nA sh1))), (aFo, .inl (cyZ, 9, .inl (bA fo1))), (aBa, .inl (cyZ, 9, .inl (bA ba1))), (aRc, .inl (cyI, 7, .inl (nA rc1)))] ∧ RS (swN t) wi1 cu cb sk) := by
  have h1 := hT.n
  have hkd : ∀ c, c < t 1 → kd c = t (3 + c) := fun c hc => (hN.1 c hc).1
  have hfi : ∀ c, c < t 1 → fi c = t (12 + c) := fun c hc => (hN.1 c hc).2.1
  have hse : ∀ c, c < t 1 → se c = t (21 + c) := fun c hc => (hN.1 c hc).2.2.1
  have hsb : ∀ c, c < t 1 → sb c = t (30 + c) := fun c hc => (hN.1 c hc).2.2.2
  have hld : ∀ l, l < t 2 → ld l = t (39 + l) := hN.2
  have hwi : ∀ l, l < 3 → wi l = s0N l := hR.1
  have hcu : ∀ c, c < 9 → cu c = s0N (3 + c) := fun c hc => (hR.2 c hc).1
  have hcb : ∀ c, c < 9 → cb c = s0N (12 + c) := fun c hc => (hR.2 c hc).2.1
  have hsk : ∀ c, c < 9 → sk c = s0N (21 + c) := fun c hc => (hR.2 c hc).2.2
  have hS : WS s0N := WS_s0
  refine Kv.of (own := RX7) rfl (by decide) (Nat.le_of_ble_eq_true rfl) (fun p0 e0 s0 m0 ar0 be0 me0 cd0 A0 C hr hk hnm hA => ?_)
  refine j_lsub [(0, .ref a0)] [0] rfl ?_
  refine j_aload_n (pc' := 1) C dX7_wishWhatIsFed_0 rfl 0 rfl ?_
  refine j_get (v := .ref aW) (pc' := 4) C KX7 0 5 rfl (by decide) fl_X7_49 rfl rfl dX7_wishWhatIsFed_1 rfl ?_
  refine j_cVv (As := []) (wr := [(a0, .inr (7, [.ref aR, .ref aN, .ref aO, .ref aH, .ref aE, .ref aW, .ref aK, .ref aIm, .ref aKp, .ref aMb])), (aFi, .inl (cyI, 9, .inl (nA fi))), (aSe, .inl (cyI, 9, .inl (nA se))), (aLd, .inl (cyI, 3, .inl (nA ld))), (aWi, .inl (cyI, 3, .inl (nA wi))), (aRc, .inl (cyI, 7, .inl (nA rc)))]) (pc' := 7) C (c_X6_layAll (aW := aW) (aSh := aSh) (aN := aN) (aO := aO) (aFo := aFo) (aBa := aBa) (aRc := aRc) (gr := gr) (sh := sh) (fo := fo) (ba := ba) (t := t) (aKd := aKd) (aFi := aFi) (aSe := aSe) (aSb := aSb) (aLd := aLd) (kd := kd) (sb := sb) (aWi := aWi) (aCu := aCu) (aCb := aCb) (aSk := aSk) (cu := cu) (cb := cb) (sk := sk) (s := s0N) (hT := by first | assumption | omega) (hS := by first | assumption | omega) (hkd := by first | assumption | omega) (hsb := by first | assumption | omega) (hcu := by first | assumption | omega) (hcb := by first | assumption | omega) (hsk := by first | assumption | omega)) Y_X6_layAll (ml_X7_157) [12, 13, 14, 15, 1, 2, 5, 7, 9, 10, 11] [0, 3, 4, 6, 8, 16] rfl rfl rfl rfl (by decide) rfl rfl rfl dX7_wishWhatIsFed_4 rfl rfl rfl (Nat.le_of_ble_eq_true rfl) ⟨Nat.le_of_ble_eq_true rfl, Nat.le_of_ble_eq_true rfl⟩ ⟨Nat.le_of_ble_eq_true rfl, Nat.le_of_ble_eq_true rfl⟩ ⟨rfl, rfl⟩ (fun w1 hQ => ?_)
  obtain ⟨sh1_1, fo1_1, ba1_1, rfl, hF4⟩ := hQ
  refine j_perm [(a0, .inr (7, [.ref aR, .ref aN, .ref aO, .ref aH, .ref aE, .ref aW, .ref aK, .ref aIm, .ref aKp, .ref aMb])), (aN, .inr (1, [.int (nI (t 0)), .int (nI (t 1)), .int (nI (t 2)), .ref aKd, .ref aFi, .ref aSe, .ref aSb, .ref aLd])), (aKd, .inl (cyI, 9, .inl (nA kd))), (aFi, .inl (cyI, 9, .inl (nA fi))), (aSe, .inl (cyI, 9, .inl (nA se))), (aSb, .inl (cyI, 9, .inl (nA sb))), (aLd, .inl (cyI, 3, .inl (nA ld))), (aO, .inr (4, [.ref aWi, .ref aCu, .ref aCb, .ref aSk])), (aWi, .inl (cyI, 3, .inl (nA wi))), (aCu, .inl (cyI, 9, .inl (nA cu))), (aCb, .inl (cyI, 9, .inl (nA cb))), (aSk, .inl (cyI, 9, .inl (nA sk))), (aW, .inr (6, [.ref aSh, .ref aN, .ref aO, .ref aFo, .ref aBa, .ref aRc, .int (bI gr)])), (aSh, .inl (cyI, 9, .inl (nA sh1_1))), (aFo, .inl (cyZ, 9, .inl (bA fo1_1))), (aBa, .inl (cyZ, 9, .inl (bA ba1_1))), (aRc, .inl (cyI, 7, .inl (nA rc)))] [0, 10, 11, 1, 2, 12, 3, 13, 4, 14, 15, 16, 6, 7, 8, 9, 5] rfl rfl (by decide) ?_
  refine j_aload_n (pc' := 8) C dX7_wishWhatIsFed_7 rfl 0 rfl ?_
  refine j_get (v := .ref aW) (pc' := 11) C KX7 0 5 rfl (by decide) fl_X7_49 rfl rfl dX7_wishWhatIsFed_8 rfl ?_
  refine j_iconst (v := (nI 0)) (pc' := 12) C dX7_wishWhatIsFed_11 rfl (by decide +kernel) ?_
  refine j_cVv (As := [.int (nI 0)]) (wr := [(a0, .inr (7, [.ref aR, .ref aN, .ref aO, .ref aH, .ref aE, .ref aW, .ref aK, .ref aIm, .ref aKp, .ref aMb])), (aKd, .inl (cyI, 9, .inl (nA kd))), (aSb, .inl (cyI, 9, .inl (nA sb))), (aLd, .inl (cyI, 3, .inl (nA ld))), (aO, .inr (4, [.ref aWi, .ref aCu, .ref aCb, .ref aSk])), (aWi, .inl (cyI, 3, .inl (nA wi))), (aCu, .inl (cyI, 9, .inl (nA cu))), (aCb, .inl (cyI, 9, .inl (nA cb))), (aSk, .inl (cyI, 9, .inl (nA sk)))]) (pc' := 15) C (c_X6_spread (aW := aW) (aSh := aSh) (aN := aN) (aO := aO) (aFo := aFo) (aBa := aBa) (aRc := aRc) (gr := gr) (sh := sh1_1) (fo := fo1_1) (ba := ba1_1) (rc := rc) (t := t) (aKd := aKd) (aFi := aFi) (aSe := aSe) (aSb := aSb) (aLd := aLd) (fi := fi) (se := se) (s := s0N) (wo := 0) (hT := by first | assumption | omega) (hfi := by first | assumption | omega) (hse := by first | assumption | omega) (hL := hF4) (hwo := by decide)) Y_X6_spread (ml_X7_217) [12, 13, 14, 15, 16, 1, 3, 4] [0, 2, 5, 6, 7, 8, 9, 10, 11] rfl rfl rfl rfl (by decide) rfl rfl rfl dX7_wishWhatIsFed_12 rfl rfl rfl (Nat.le_of_ble_eq_true rfl) ⟨Nat.le_of_ble_eq_true rfl, Nat.le_of_ble_eq_true rfl⟩ ⟨Nat.le_of_ble_eq_true rfl, Nat.le_of_ble_eq_true rfl⟩ ⟨rfl, rfl⟩ (fun w1 hQ => ?_)
  obtain ⟨rc1_2, g1_2, rfl, hF12⟩ := hQ
  refine j_perm [(a0, .inr (7, [.ref aR, .ref aN, .ref aO, .ref aH, .ref aE, .ref aW, .ref aK, .ref aIm, .ref aKp, .ref aMb])), (aN, .inr (1, [.int (nI (t 0)), .int (nI (t 1)), .int (nI (t 2)), .ref aKd, .ref aFi, .ref aSe, .ref aSb, .ref aLd])), (aKd, .inl (cyI, 9, .inl (nA kd))), (aFi, .inl (cyI, 9, .inl (nA fi))), (aSe, .inl (cyI, 9, .inl (nA se))), (aSb, .inl (cyI, 9, .inl (nA sb))), (aLd, .inl (cyI, 3, .inl (nA ld))), (aO, .inr (4, [.ref aWi, .ref aCu, .ref aCb, .ref aSk])), (aWi, .inl (cyI, 3, .inl (nA wi))), (aCu, .inl (cyI, 9, .inl (nA cu))), (aCb, .inl (cyI, 9, .inl (nA cb))), (aSk, .inl (cyI, 9, .inl (nA sk))), (aW, .inr (6, [.ref aSh, .ref aN, .ref aO, .ref aFo, .ref aBa, .ref aRc, .int (bI g1_2)])), (aSh, .inl (cyI, 9, .inl (nA sh1_1))), (aFo, .inl (cyZ, 9, .inl (bA fo1_1))), (aBa, .inl (cyZ, 9, .inl (bA ba1_1))), (aRc, .inl (cyI, 7, .inl (nA rc1_2)))] [0, 14, 1, 15, 16, 2, 3, 4, 5, 6, 7, 8, 9, 10, 11, 12, 13] rfl rfl (by decide) ?_
  refine j_iconst (v := (nI 0)) (pc' := 16) C dX7_wishWhatIsFed_15 rfl (by decide +kernel) ?_
  refine j_istore_n (pc' := 17) C [(1, .int (nI 0)), (0, .ref a0)] dX7_wishWhatIsFed_16 rfl (by decide) rfl ?_
  refine j_lsub [(0, .ref a0), (1, .int (nI 0))] [1, 0] rfl ?_
  refine j_loop2 (fun (i : Nat) (y : Nat → Nat) => [(a0, .inr (7, [.ref aR, .ref aN, .ref aO, .ref aH, .ref aE, .ref aW, .ref aK, .ref aIm, .ref aKp, .ref aMb])), (aN, .inr (1, [.int (nI (t 0)), .int (nI (t 1)), .int (nI (t 2)), .ref aKd, .ref aFi, .ref aSe, .ref aSb, .ref aLd])), (aKd, .inl (cyI, 9, .inl (nA kd))), (aFi, .inl (cyI, 9, .inl (nA fi))), (aSe, .inl (cyI, 9, .inl (nA se))), (aSb, .inl (cyI, 9, .inl (nA sb))), (aLd, .inl (cyI, 3, .inl (nA ld))), (aO, .inr (4, [.ref aWi, .ref aCu, .ref aCb, .ref aSk])), (aWi, .inl (cyI, 3, .inl (nA y))), (aCu, .inl (cyI, 9, .inl (nA cu))), (aCb, .inl (cyI, 9, .inl (nA cb))), (aSk, .inl (cyI, 9, .inl (nA sk))), (aW, .inr (6, [.ref aSh, .ref aN, .ref aO, .ref aFo, .ref aBa, .ref aRc, .int (bI g1_2)])), (aSh, .inl (cyI, 9, .inl (nA sh1_1))), (aFo, .inl (cyZ, 9, .inl (bA fo1_1))), (aBa, .inl (cyZ, 9, .inl (bA ba1_1))), (aRc, .inl (cyI, 7, .inl (nA rc1_2)))]) (fun (i : Nat) (y : Nat → Nat) => [(0, .ref a0), (1, .int (nI i))]) (fun (i : Nat) (y : Nat → Nat) => []) (fun (i : Nat) (y : Nat → Nat) => i ≤ t 2 ∧ ∀ l, l < 3 → y l = if l < i then fedN t s0N l else s0N l) (fun (i : Nat) (y : Nat → Nat) => t 2 - i) ?_ 0 wi ?_
  · intro i y hI17 ih17
    obtain ⟨hi, hy⟩ := hI17
    refine j_iload_n (pc' := 18) C dX7_wishWhatIsFed_17 rfl 1 rfl ?_
    refine j_aload_n (pc' := 19) C dX7_wishWhatIsFed_18 rfl 0 rfl ?_
    refine j_get (v := .ref aN) (pc' := 22) C KX7 0 1 rfl (by decide) fl_X7_19 rfl rfl dX7_wishWhatIsFed_19 rfl ?_
    refine j_get (v := .int (nI (t 2))) (pc' := 25) C KX1 1 2 rfl (by decide) fl_X7_233 rfl rfl dX7_wishWhatIsFed_22 rfl ?_
    refine j_nc_ge (pc' := 28) C 51 dX7_wishWhatIsFed_25 (by decide) rfl (by omega) (by omega) (fun c25 => ?_) (fun c25 => ?_)
    · exact j_vret C hr hk hA dX7_wishWhatIsFed_51 (⟨_, _, _, _, _, _, rfl, fun l hl => by
          rw [hy l hl, show i = t 2 by omega]
          unfold swN
          by_cases q9 : l < t 2
          · rw [if_pos q9, flN_i (Nat.zero_le _) (by omega), Nat.sub_zero]
          · rw [if_neg q9, flN_o (by omega)], fun c hc => by
          unfold swN
          rw [flN_o (by omega), flN_o (by omega), flN_o (by omega)]
          exact hR.2 c hc⟩)
    · refine j_aload_n (pc' := 29) C dX7_wishWhatIsFed_28 rfl 0 rfl ?_
      refine j_get (v := .ref aO) (pc' := 32) C KX7 0 2 rfl (by decide) fl_X7_26 rfl rfl dX7_wishWhatIsFed_29 rfl ?_
      refine j_get (v := .ref aWi) (pc' := 35) C KX4 7 0 rfl (by decide) fl_X7_139 rfl rfl dX7_wishWhatIsFed_32 rfl ?_
      refine j_iload_n (pc' := 36) C dX7_wishWhatIsFed_35 rfl 1 rfl ?_
      refine j_aload_n (pc' := 37) C dX7_wishWhatIsFed_36 rfl 0 rfl ?_
      refine j_get (v := .ref aW) (pc' := 40) C KX7 0 5 rfl (by decide) fl_X7_49 rfl rfl dX7_wishWhatIsFed_37 rfl ?_
      refine j_iload_n (pc' := 41) C dX7_wishWhatIsFed_40 rfl 1 rfl ?_
      refine j_cVi (As := [.int (nI i)]) (wr := [(a0, .inr (7, [.ref aR, .ref aN, .ref aO, .ref aH, .ref aE, .ref aW, .ref aK, .ref aIm, .ref aKp, .ref aMb])), (aKd, .inl (cyI, 9, .inl (nA kd))), (aFi, .inl (cyI, 9, .inl (nA fi))), (aSe, .inl (cyI, 9, .inl (nA se))), (aSb, .inl (cyI, 9, .inl (nA sb))), (aO, .inr (4, [.ref aWi, .ref aCu, .ref aCb, .ref aSk])), (aWi, .inl (cyI, 3, .inl (nA y))), (aCu, .inl (cyI, 9, .inl (nA cu))), (aCb, .inl (cyI, 9, .inl (nA cb))), (aSk, .inl (cyI, 9, .inl (nA sk))), (aSh, .inl (cyI, 9, .inl (nA sh1_1))), (aFo, .inl (cyZ, 9, .inl (bA fo1_1))), (aBa, .inl (cyZ, 9, .inl (bA ba1_1)))]) (pc' := 44) C (c_X6_fed (aW := aW) (aSh := aSh) (aN := aN) (aO := aO) (aFo := aFo) (aBa := aBa) (aRc := aRc) (gr := g1_2) (rc := rc1_2) (t := t) (aKd := aKd) (aFi := aFi) (aSe := aSe) (aSb := aSb) (aLd := aLd) (ld := ld) (l := i) (hT := by first | assumption | omega) (hld := by first | assumption | omega) (hl := by first | assumption | omega)) Y_X6_fed (ml_X7_242) [12, 16, 1, 6] [0, 2, 3, 4, 5, 7, 8, 9, 10, 11, 13, 14, 15] rfl rfl rfl rfl (by decide) rfl rfl rfl dX7_wishWhatIsFed_41 rfl rfl rfl (Nat.le_of_ble_eq_true rfl) ⟨Nat.le_of_ble_eq_true rfl, Nat.le_of_ble_eq_true rfl⟩ ⟨Nat.le_of_ble_eq_true rfl, Nat.le_of_ble_eq_true rfl⟩ ⟨rfl, rfl⟩ (fun r3 w1 hQ => ?_)
      obtain ⟨rfl, rfl⟩ := hQ
      refine j_perm [(a0, .inr (7, [.ref aR, .ref aN, .ref aO, .ref aH, .ref aE, .ref aW, .ref aK, .ref aIm, .ref aKp, .ref aMb])), (aN, .inr (1, [.int (nI (t 0)), .int (nI (t 1)), .int (nI (t 2)), .ref aKd, .ref aFi, .ref aSe, .ref aSb, .ref aLd])), (aKd, .inl (cyI, 9, .inl (nA kd))), (aFi, .inl (cyI, 9, .inl (nA fi))), (aSe, .inl (cyI, 9, .inl (nA se))), (aSb, .inl (cyI, 9, .inl (nA sb))), (aLd, .inl (cyI, 3, .inl (nA ld))), (aO, .inr (4, [.ref aWi, .ref aCu, .ref aCb, .ref aSk])), (aWi, .inl (cyI, 3, .inl (nA y))), (aCu, .inl (cyI, 9, .inl (nA cu))), (aCb, .inl (cyI, 9, .inl (nA cb))), (aSk, .inl (cyI, 9, .inl (nA sk))), (aW, .inr (6, [.ref aSh, .ref aN, .ref aO, .ref aFo, .ref aBa, .ref aRc, .int (bI g1_2)])), (aSh, .inl (cyI, 9, .inl (nA sh1_1))), (aFo, .inl (cyZ, 9, .inl (bA fo1_1))), (aBa, .inl (cyZ, 9, .inl (bA ba1_1))), (aRc, .inl (cyI, 7, .inl (nA rc1_2)))] [0, 15, 1, 2, 3, 4, 16, 5, 6, 7, 8, 9, 13, 10, 11, 12, 14] rfl rfl (by decide) ?_
      refine j_nast (pc' := 45) C [(a0, .inr (7, [.ref aR, .ref aN, .ref aO, .ref aH, .ref aE, .ref aW, .ref aK, .ref aIm, .ref aKp, .ref aMb])), (aN, .inr (1, [.int (nI (t 0)), .int (nI (t 1)), .int (nI (t 2)), .ref aKd, .ref aFi, .ref aSe, .ref aSb, .ref aLd])), (aKd, .inl (cyI, 9, .inl (nA kd))), (aFi, .inl (cyI, 9, .inl (nA fi))), (aSe, .inl (cyI, 9, .inl (nA se))), (aSb, .inl (cyI, 9, .inl (nA sb))), (aLd, .inl (cyI, 3, .inl (nA ld))), (aO, .inr (4, [.ref aWi, .ref aCu, .ref aCb, .ref aSk])), (aWi, .inl (cyI, 3, .inl (nA (uN y i (rc1_2 (t (39 + i))))))), (aCu, .inl (cyI, 9, .inl (nA cu))), (aCb, .inl (cyI, 9, .inl (nA cb))), (aSk, .inl (cyI, 9, .inl (nA sk))), (aW, .inr (6, [.ref aSh, .ref aN, .ref aO, .ref aFo, .ref aBa, .ref aRc, .int (bI g1_2)])), (aSh, .inl (cyI, 9, .inl (nA sh1_1))), (aFo, .inl (cyZ, 9, .inl (bA fo1_1))), (aBa, .inl (cyZ, 9, .inl (bA ba1_1))), (aRc, .inl (cyI, 7, .inl (nA rc1_2)))] 8 rfl (by omega) (by decide) dX7_wishWhatIsFed_44 rfl rfl ?_
      refine j_iinc (v := (nI (i + 1))) (pc' := 48) C [(1, .int (nI (i + 1))), (0, .ref a0)] dX7_wishWhatIsFed_45 rfl 1 rfl (inc_n i 1) (by decide) rfl ?_
      refine j_goto C 17 dX7_wishWhatIsFed_48 (by decide) ?_
      refine j_lsub [(0, .ref a0), (1, .int (nI (i + 1)))] [1, 0] rfl ?_
      exact ih17 (i + 1) (uN y i (rc1_2 (t (39 + i)))) (⟨by omega, fun l hl => by
          by_cases q9 : l = i
          · rw [q9, uN_s, if_pos (by omega), RcK_fed hT hF12 c25]
          · rw [uN_n q9, hy l hl]
            by_cases q8 : l < i
            · rw [if_pos q8, if_pos (by omega)]
            · rw [if_neg q8, if_neg (by omega)]⟩) (by omega)
  · exact ⟨Nat.zero_le _, fun l hl => by rw [if_neg (by omega)]; exact hwi l hl⟩
