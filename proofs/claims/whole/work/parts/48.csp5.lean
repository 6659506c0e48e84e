set_option maxHeartbeats 4000000 in
set_option maxRecDepth 100000 in
theorem c_J6_bitCount {lch : Launch} {dG : va_G} {cyI cyZ cyO : ClassId} (v : Nat) (hv : v < 512) : Ki lch yJ6_bitCount_0f7a4 cJ6_bitCount_0f7a4 1 .int (rmk 1) dG (cyI, cyZ, cyO) [.int (nI v)] [] (fun r w1 => w1 = [] ∧ r = (nI (pcN v))) := by
  refine Ki.of (own := RJ6) rfl (by decide) (Nat.le_of_ble_eq_true rfl) (fun p0 e0 s0 m0 ar0 be0 me0 cd0 A0 C hr hk hnm hA => ?_)
  refine j_lsub [(0, .int (nI v))] [0] rfl ?_
  refine j_iload_n (pc' := 1) C dJ6_bitCount_0f7a4_0 rfl 0 rfl ?_
  refine j_iload_n (pc' := 2) C dJ6_bitCount_0f7a4_1 rfl 0 rfl ?_
  refine j_iconst (v := (nI 1)) (pc' := 3) C dJ6_bitCount_0f7a4_2 rfl (by decide +kernel) ?_
  refine j_iushr (v := (((nI v).toUInt32 >>> ((nI 1).toUInt32 &&& Int32.toUInt32 31)).toInt32)) (pc' := 4) C dJ6_bitCount_0f7a4_3 rfl (rfl) ?_
  refine j_ldcw (v := 1431655765) (pc' := 7) C dJ6_bitCount_0f7a4_4 rfl co_J6_265 ?_
  refine j_top (nI 1431655765) (by decide +kernel) ?_
  refine j_iand (v := ((((nI v).toUInt32 >>> ((nI 1).toUInt32 &&& Int32.toUInt32 31)).toInt32) &&& (nI 1431655765))) (pc' := 8) C dJ6_bitCount_0f7a4_7 rfl (rfl) ?_
  refine j_isub (v := ((nI v) - ((((nI v).toUInt32 >>> ((nI 1).toUInt32 &&& Int32.toUInt32 31)).toInt32) &&& (nI 1431655765)))) (pc' := 9) C dJ6_bitCount_0f7a4_8 rfl (rfl) ?_
  refine j_nm (fun v1 ev1 => ?_)
  refine j_istore_n (pc' := 10) C [(0, .int v1)] dJ6_bitCount_0f7a4_9 rfl (by decide) rfl ?_
  refine j_iload_n (pc' := 11) C dJ6_bitCount_0f7a4_10 rfl 0 rfl ?_
  refine j_ldcw (v := 858993459) (pc' := 14) C dJ6_bitCount_0f7a4_11 rfl co_J6_266 ?_
  refine j_top (nI 858993459) (by decide +kernel) ?_
  refine j_iand (v := (v1 &&& (nI 858993459))) (pc' := 15) C dJ6_bitCount_0f7a4_14 rfl (rfl) ?_
  refine j_iload_n (pc' := 16) C dJ6_bitCount_0f7a4_15 rfl 0 rfl ?_
  refine j_iconst (v := (nI 2)) (pc' := 17) C dJ6_bitCount_0f7a4_16 rfl (by decide +kernel) ?_
  refine j_iushr (v := ((v1.toUInt32 >>> ((nI 2).toUInt32 &&& Int32.toUInt32 31)).toInt32)) (pc' := 18) C dJ6_bitCount_0f7a4_17 rfl (rfl) ?_
  refine j_ldcw (v := 858993459) (pc' := 21) C dJ6_bitCount_0f7a4_18 rfl co_J6_266 ?_
  refine j_top (nI 858993459) (by decide +kernel) ?_
  refine j_iand (v := (((v1.toUInt32 >>> ((nI 2).toUInt32 &&& Int32.toUInt32 31)).toInt32) &&& (nI 858993459))) (pc' := 22) C dJ6_bitCount_0f7a4_21 rfl (rfl) ?_
  refine j_iadd (v := ((v1 &&& (nI 858993459)) + (((v1.toUInt32 >>> ((nI 2).toUInt32 &&& Int32.toUInt32 31)).toInt32) &&& (nI 858993459)))) (pc' := 23) C dJ6_bitCount_0f7a4_22 rfl (rfl) ?_
  refine j_nm (fun v2 ev2 => ?_)
  refine j_istore_n (pc' := 24) C [(0, .int v2)] dJ6_bitCount_0f7a4_23 rfl (by decide) rfl ?_
  refine j_iload_n (pc' := 25) C dJ6_bitCount_0f7a4_24 rfl 0 rfl ?_
  refine j_iload_n (pc' := 26) C dJ6_bitCount_0f7a4_25 rfl 0 rfl ?_
  refine j_iconst (v := (nI 4)) (pc' := 27) C dJ6_bitCount_0f7a4_26 rfl (by decide +kernel) ?_
  refine j_iushr (v := ((v2.toUInt32 >>> ((nI 4).toUInt32 &&& Int32.toUInt32 31)).toInt32)) (pc' := 28) C dJ6_bitCount_0f7a4_27 rfl (rfl) ?_
  refine j_iadd (v := (v2 + ((v2.toUInt32 >>> ((nI 4).toUInt32 &&& Int32.toUInt32 31)).toInt32))) (pc' := 29) C dJ6_bitCount_0f7a4_28 rfl (rfl) ?_
  refine j_ldcw (v := 252645135) (pc' := 32) C dJ6_bitCount_0f7a4_29 rfl co_J6_267 ?_
  refine j_top (nI 252645135) (by decide +kernel) ?_
  refine j_iand (v := ((v2 + ((v2.toUInt32 >>> ((nI 4).toUInt32 &&& Int32.toUInt32 31)).toInt32)) &&& (nI 252645135))) (pc' := 33) C dJ6_bitCount_0f7a4_32 rfl (rfl) ?_
  refine j_nm (fun v3 ev3 => ?_)
  refine j_istore_n (pc' := 34) C [(0, .int v3)] dJ6_bitCount_0f7a4_33 rfl (by decide) rfl ?_
  refine j_iload_n (pc' := 35) C dJ6_bitCount_0f7a4_34 rfl 0 rfl ?_
  refine j_iload_n (pc' := 36) C dJ6_bitCount_0f7a4_35 rfl 0 rfl ?_
  refine j_bipush (v := (nI 8)) (pc' := 38) C dJ6_bitCount_0f7a4_36 rfl (by decide +kernel) ?_
  refine j_iushr (v := ((v3.toUInt32 >>> ((nI 8).toUInt32 &&& Int32.toUInt32 31)).toInt32)) (pc' := 39) C dJ6_bitCount_0f7a4_38 rfl (rfl) ?_
  refine j_iadd (v := (v3 + ((v3.toUInt32 >>> ((nI 8).toUInt32 &&& Int32.toUInt32 31)).toInt32))) (pc' := 40) C dJ6_bitCount_0f7a4_39 rfl (rfl) ?_
  refine j_nm (fun v4 ev4 => ?_)
  refine j_istore_n (pc' := 41) C [(0, .int v4)] dJ6_bitCount_0f7a4_40 rfl (by decide) rfl ?_
  refine j_iload_n (pc' := 42) C dJ6_bitCount_0f7a4_41 rfl 0 rfl ?_
  refine j_iload_n (pc' := 43) C dJ6_bitCount_0f7a4_42 rfl 0 rfl ?_
  refine j_bipush (v := (nI 16)) (pc' := 45) C dJ6_bitCount_0f7a4_43 rfl (by decide +kernel) ?_
  refine j_iushr (v := ((v4.toUInt32 >>> ((nI 16).toUInt32 &&& Int32.toUInt32 31)).toInt32)) (pc' := 46) C dJ6_bitCount_0f7a4_45 rfl (rfl) ?_
  refine j_iadd (v := (v4 + ((v4.toUInt32 >>> ((nI 16).toUInt32 &&& Int32.toUInt32 31)).toInt32))) (pc' := 47) C dJ6_bitCount_0f7a4_46 rfl (rfl) ?_
  refine j_nm (fun v5 ev5 => ?_)
  refine j_istore_n (pc' := 48) C [(0, .int v5)] dJ6_bitCount_0f7a4_47 rfl (by decide) rfl ?_
  refine j_iload_n (pc' := 49) C dJ6_bitCount_0f7a4_48 rfl 0 rfl ?_
  refine j_bipush (v := (nI 63)) (pc' := 51) C dJ6_bitCount_0f7a4_49 rfl (by decide +kernel) ?_
  refine j_iand (v := (v5 &&& (nI 63))) (pc' := 52) C dJ6_bitCount_0f7a4_51 rfl (rfl) ?_
  exact j_iret C hr hk hA dJ6_bitCount_0f7a4_52 (rfl) (⟨rfl, by subst_vars; exact bc_all v hv⟩)

set_option maxHeartbeats 4000000 in
set_option maxRecDepth 100000 in
theorem c_X7_parting {lch : Launch} {dG : va_G} {cyI cyZ cyO : ClassId} (a0 : Nat) (aR : Nat) (aN : Nat) (aO : Nat) (aH : Nat) (aE : Nat) (aW : Nat) (aK : Nat) (aIm : Nat) (aKp : Nat) (aMb : Nat) (t : Nat → Nat) (aKd : Nat) (aFi : Nat) (aSe : Nat) (aSb : Nat) (aLd : Nat) (kd : Nat → Nat) (fi : Nat → Nat) (se : Nat → Nat) (sb : Nat → Nat) (ld : Nat → Nat) (aWi : Nat) (aCu : Nat) (aCb : Nat) (aSk : Nat) (wi : Nat → Nat) (cu : Nat → Nat) (cb : Nat → Nat) (sk : Nat → Nat) (aSh : Nat) (aFo : Nat) (aBa : Nat) (aRc : Nat) (gr : Bool) (sh : Nat → Nat) (fo : Nat → Bool) (ba : Nat → Bool) (rc : Nat → Nat) (s : Nat → Nat) (l : Int32) (v : Int32) (hT : WT t) (hS : WS s) (hN : RN t kd fi se sb ld) (hR : RS s wi cu cb sk) : Ki lch yX7_parting cX7_parting 8 .int (rmk 5) dG (cyI, cyZ, cyO) [.ref a0, .int l, .int v] [(a0, .inr (7, [.ref aR, .ref aN, .ref aO, .ref aH, .ref aE, .ref aW, .ref aK, .ref aIm, .ref aKp, .ref aMb])), (aN, .inr (1, [.int (nI (t 0)), .int (nI (t 1)), .int (nI (t 2)), .ref aKd, .ref aFi, .ref aSe, .ref aSb, .ref aLd])), (aKd, .inl (cyI, 9, .inl (nA kd))), (aFi, .inl (cyI, 9, .inl (nA fi))), (aSe, .inl (cyI, 9, .inl (nA se))), (aSb, .inl (cyI, 9, .inl (nA sb))), (aLd, .inl (cyI, 3, .inl (nA ld))), (aO, .inr (4, [.ref aWi, .ref aCu, .ref aCb, .ref aSk])), (aWi, .inl (cyI, 3, .inl (nA wi))), (aCu, .inl (cyI, 9, .inl (nA cu))), (aCb, .inl (cyI, 9, .inl (nA cb))), (aSk, .inl (cyI, 9, .inl (nA sk))), (aW, .inr (6, [.ref aSh, .ref aN, .ref aO, .ref aFo, .ref aBa, .ref aRc, .int (bI gr)])), (aSh, .inl (cyI, 9, .inl (nA sh))), (aFo, .inl (cyZ, 9, .inl (bA fo))), (aBa, .inl (cyZ, 9, .inl (bA ba))), (aRc, .inl (cyI, 7, .inl (nA rc)))] (fun r w1 => ∃ (sh1 : Nat → Nat), ∃ (fo1 : Nat → Bool), ∃ (ba1 : Nat → Bool), ∃ (rc1 : Nat → Nat), ∃ (g1 : Bool), w1 = [(a0, .inr (7, [.ref aR, .ref aN, .ref aO, .ref aH, .ref aE, .ref aW, .ref aK, .ref aIm, .ref aKp, .ref aMb])), (aN, .inr (1, [.int (nI (t 0)), .int (nI (t 1)), .int (nI (t 2)), .ref aKd, .ref aFi, .ref aSe, .ref aSb, .ref aLd])), (aKd, .inl (cyI, 9, .inl (nA kd))), (aFi, .inl (cyI, 9, .inl (nA fi))), (aSe, .inl (cyI, 9, .inl (nA se))), (aSb, .inl (cyI, 9, .inl (nA sb))), (aLd, .inl (cyI, 3, .inl (nA ld))), (aO, .inr (4, [.ref aWi, .ref aCu, .ref aCb, .ref aSk])), (aWi, .inl (cyI, 3, .inl (nA wi))), (aCu, .inl (cyI, 9, .inl (nA cu))), (aCb, .inl (cyI, 9, .inl (nA cb))), (aSk, .inl (cyI, 9, .inl (nA sk))), (aW, .inr (6, [.ref aSh, .ref aN, .ref aO, .ref aFo, .ref aBa, .ref aRc, .int (bI g1)])), (aSh, .inl (cyI, 9, .inl (nA sh1))), (aFo, .inl (cyZ, 9, .inl (bA fo1))), (aBa, .inl (cyZ, 9, .inl (bA ba1))), (aRc, .inl (cyI, 7, .inl (nA rc1)))] ∧ r = prQ t s l v) := by
  have h1 := hT.n
  have hkd : ∀ c, c < t 1 → kd c = t (3 + c) := fun c hc => (hN.1 c hc).1
  have hfi : ∀ c, c < t 1 → fi c = t (12 + c) := fun c hc => (hN.1 c hc).2.1
  have hse : ∀ c, c < t 1 → se c = t (21 + c) := fun c hc => (hN.1 c hc).2.2.1
  have hsb : ∀ c, c < t 1 → sb c = t (30 + c) := fun c hc => (hN.1 c hc).2.2.2
  have hld : ∀ l, l < t 2 → ld l = t (39 + l) := hN.2
  have hwi : ∀ l, l < 3 → wi l = s l := hR.1
  have hcu : ∀ c, c < 9 → cu c = s (3 + c) := fun c hc => (hR.2 c hc).1
  have hcb : ∀ c, c < 9 → cb c = s (12 + c) := fun c hc => (hR.2 c hc).2.1
  have hsk : ∀ c, c < 9 → sk c = s (21 + c) := fun c hc => (hR.2 c hc).2.2
  have hp9 := p2_9 h1.2.2.1
  refine Ki.of (own := RX7) rfl (by decide) (Nat.le_of_ble_eq_true rfl) (fun p0 e0 s0 m0 ar0 be0 me0 cd0 A0 C hr hk hnm hA => ?_)
  refine j_lsub [(0, .ref a0), (1, .int l), (2, .int v)] [0, 1, 2] rfl ?_
  refine j_aload_n (pc' := 1) C dX7_parting_0 rfl 0 rfl ?_
  refine j_iload_n (pc' := 2) C dX7_parting_1 rfl 1 rfl ?_
  refine j_cVi (As := [.int l]) (wr := [(aKd, .inl (cyI, 9, .inl (nA kd))), (aFi, .inl (cyI, 9, .inl (nA fi))), (aSe, .inl (cyI, 9, .inl (nA se))), (aSb, .inl (cyI, 9, .inl (nA sb))), (aLd, .inl (cyI, 3, .inl (nA ld))), (aO, .inr (4, [.ref aWi, .ref aCu, .ref aCb, .ref aSk])), (aWi, .inl (cyI, 3, .inl (nA wi))), (aCu, .inl (cyI, 9, .inl (nA cu))), (aCb, .inl (cyI, 9, .inl (nA cb))), (aSk, .inl (cyI, 9, .inl (nA sk))), (aW, .inr (6, [.ref aSh, .ref aN, .ref aO, .ref aFo, .ref aBa, .ref aRc, .int (bI gr)])), (aSh, .inl (cyI, 9, .inl (nA sh))), (aFo, .inl (cyZ, 9, .inl (bA fo))), (aBa, .inl (cyZ, 9, .inl (bA ba))), (aRc, .inl (cyI, 7, .inl (nA rc)))]) (pc' := 5) C (c_X7_isLoad (a0 := a0) (aR := aR) (aN := aN) (aO := aO) (aH := aH) (aE := aE) (aW := aW) (aK := aK) (aIm := aIm) (aKp := aKp) (aMb := aMb) (t := t) (aKd := aKd) (aFi := aFi) (aSe := aSe) (aSb := aSb) (aLd := aLd) (v := l) (hT := by first | assumption | omega)) Y_X7_isLoad (ml_X7_129) [0, 1] [2, 3, 4, 5, 6, 7, 8, 9, 10, 11, 12, 13, 14, 15, 16] rfl rfl rfl rfl (by decide) rfl rfl rfl dX7_parting_2 rfl rfl rfl (Nat.le_of_ble_eq_true rfl) ⟨Nat.le_of_ble_eq_true rfl, Nat.le_of_ble_eq_true rfl⟩ ⟨Nat.le_of_ble_eq_true rfl, Nat.le_of_ble_eq_true rfl⟩ ⟨rfl, rfl⟩ (fun r1 w1 hQ => ?_)
  obtain ⟨rfl, rfl⟩ := hQ
  refine j_perm [(a0, .inr (7, [.ref aR, .ref aN, .ref aO, .ref aH, .ref aE, .ref aW, .ref aK, .ref aIm, .ref aKp, .ref aMb])), (aN, .inr (1, [.int (nI (t 0)), .int (nI (t 1)), .int (nI (t 2)), .ref aKd, .ref aFi, .ref aSe, .ref aSb, .ref aLd])), (aKd, .inl (cyI, 9, .inl (nA kd))), (aFi, .inl (cyI, 9, .inl (nA fi))), (aSe, .inl (cyI, 9, .inl (nA se))), (aSb, .inl (cyI, 9, .inl (nA sb))), (aLd, .inl (cyI, 3, .inl (nA ld))), (aO, .inr (4, [.ref aWi, .ref aCu, .ref aCb, .ref aSk])), (aWi, .inl (cyI, 3, .inl (nA wi))), (aCu, .inl (cyI, 9, .inl (nA cu))), (aCb, .inl (cyI, 9, .inl (nA cb))), (aSk, .inl (cyI, 9, .inl (nA sk))), (aW, .inr (6, [.ref aSh, .ref aN, .ref aO, .ref aFo, .ref aBa, .ref aRc, .int (bI gr)])), (aSh, .inl (cyI, 9, .inl (nA sh))), (aFo, .inl (cyZ, 9, .inl (bA fo))), (aBa, .inl (cyZ, 9, .inl (bA ba))), (aRc, .inl (cyI, 7, .inl (nA rc)))] [15, 16, 0, 1, 2, 3, 4, 5, 6, 7, 8, 9, 10, 11, 12, 13, 14] rfl rfl (by decide) ?_
  refine j_b_eq (pc' := 8) C 15 dX7_parting_5 (by decide) rfl (fun c5 => ?_) (fun c5 => ?_)
  · refine j_iconst (v := (-1)) (pc' := 16) C dX7_parting_15 rfl (by decide +kernel) ?_
    exact j_iret C hr hk hA dX7_parting_16 (rfl) (⟨_, _, _, _, _, rfl, by unfold prQ; rw [if_pos (by rw [c5]; rfl)]⟩)
  · obtain ⟨j, hj, rfl⟩ := inR_t (c5) (by omega)
    have hin := inR_n (j := j) (n := t 2) hj (by omega)
    refine j_iload_n (pc' := 9) C dX7_parting_8 rfl 2 rfl ?_
    refine j_cSi (As := [.int v]) (wr := [(a0, .inr (7, [.ref aR, .ref aN, .ref aO, .ref aH, .ref aE, .ref aW, .ref aK, .ref aIm, .ref aKp, .ref aMb])), (aN, .inr (1, [.int (nI (t 0)), .int (nI (t 1)), .int (nI (t 2)), .ref aKd, .ref aFi, .ref aSe, .ref aSb, .ref aLd])), (aKd, .inl (cyI, 9, .inl (nA kd))), (aFi, .inl (cyI, 9, .inl (nA fi))), (aSe, .inl (cyI, 9, .inl (nA se))), (aSb, .inl (cyI, 9, .inl (nA sb))), (aLd, .inl (cyI, 3, .inl (nA ld))), (aO, .inr (4, [.ref aWi, .ref aCu, .ref aCb, .ref aSk])), (aWi, .inl (cyI, 3, .inl (nA wi))), (aCu, .inl (cyI, 9, .inl (nA cu))), (aCb, .inl (cyI, 9, .inl (nA cb))), (aSk, .inl (cyI, 9, .inl (nA sk))), (aW, .inr (6, [.ref aSh, .ref aN, .ref aO, .ref aFo, .ref aBa, .ref aRc, .int (bI gr)])), (aSh, .inl (cyI, 9, .inl (nA sh))), (aFo, .inl (cyZ, 9, .inl (bA fo))), (aBa, .inl (cyZ, 9, .inl (bA ba))), (aRc, .inl (cyI, 7, .inl (nA rc)))]) (pc' := 12) C (c_X7_isState (v := v) ) Y_X7_isState (ml_X7_174) [] [0, 1, 2, 3, 4, 5, 6, 7, 8, 9, 10, 11, 12, 13, 14, 15, 16] rfl rfl rfl rfl (by decide) dX7_parting_9 rfl rfl rfl (Nat.le_of_ble_eq_true rfl) ⟨Nat.le_of_ble_eq_true rfl, Nat.le_of_ble_eq_true rfl⟩ ⟨Nat.le_of_ble_eq_true rfl, Nat.le_of_ble_eq_true rfl⟩ ⟨rfl, rfl⟩ (fun r2 w1 hQ => ?_)
    obtain ⟨rfl, rfl⟩ := hQ
    refine j_perm [(a0, .inr (7, [.ref aR, .ref aN, .ref aO, .ref aH, .ref aE, .ref aW, .ref aK, .ref aIm, .ref aKp, .ref aMb])), (aN, .inr (1, [.int (nI (t 0)), .int (nI (t 1)), .int (nI (t 2)), .ref aKd, .ref aFi, .ref aSe, .ref aSb, .ref aLd])), (aKd, .inl (cyI, 9, .inl (nA kd))), (aFi, .inl (cyI, 9, .inl (nA fi))), (aSe, .inl (cyI, 9, .inl (nA se))), (aSb, .inl (cyI, 9, .inl (nA sb))), (aLd, .inl (cyI, 3, .inl (nA ld))), (aO, .inr (4, [.ref aWi, .ref aCu, .ref aCb, .ref aSk])), (aWi, .inl (cyI, 3, .inl (nA wi))), (aCu, .inl (cyI, 9, .inl (nA cu))), (aCb, .inl (cyI, 9, .inl (nA cb))), (aSk, .inl (cyI, 9, .inl (nA sk))), (aW, .inr (6, [.ref aSh, .ref aN, .ref aO, .ref aFo, .ref aBa, .ref aRc, .int (bI gr)])), (aSh, .inl (cyI, 9, .inl (nA sh))), (aFo, .inl (cyZ, 9, .inl (bA fo))), (aBa, .inl (cyZ, 9, .inl (bA ba))), (aRc, .inl (cyI, 7, .inl (nA rc)))] [0, 1, 2, 3, 4, 5, 6, 7, 8, 9, 10, 11, 12, 13, 14, 15, 16] rfl rfl (by decide) ?_
    refine j_b_ne (pc' := 15) C 17 dX7_parting_12 (by decide) rfl (fun c12 => ?_) (fun c12 => ?_)
    · obtain ⟨q, hq, rfl⟩ := inR_t (c12) (by decide)
      have hin2 := inR_n (j := q) (n := 16) hq (by decide)
      refine j_aload_n (pc' := 18) C dX7_parting_17 rfl 0 rfl ?_
      refine j_get (v := .ref aW) (pc' := 21) C KX7 0 5 rfl (by decide) fl_X7_49 rfl rfl dX7_parting_18 rfl ?_
      refine j_cVv (As := []) (wr := [(a0, .inr (7, [.ref aR, .ref aN, .ref aO, .ref aH, .ref aE, .ref aW, .ref aK, .ref aIm, .ref aKp, .ref aMb])), (aFi, .inl (cyI, 9, .inl (nA fi))), (aSe, .inl (cyI, 9, .inl (nA se))), (aLd, .inl (cyI, 3, .inl (nA ld))), (aWi, .inl (cyI, 3, .inl (nA wi))), (aRc, .inl (cyI, 7, .inl (nA rc)))]) (pc' := 24) C (c_X6_layAll (aW := aW) (aSh := aSh) (aN := aN) (aO := aO) (aFo := aFo) (aBa := aBa) (aRc := aRc) (gr := gr) (sh := sh) (fo := fo) (ba := ba) (t := t) (aKd := aKd) (aFi := aFi) (aSe := aSe) (aSb := aSb) (aLd := aLd) (kd := kd) (sb := sb) (aWi := aWi) (aCu := aCu) (aCb := aCb) (aSk := aSk) (cu := cu) (cb := cb) (sk := sk) (s := s) (hT := by first | assumption | omega) (hS := by first | assumption | omega) (hkd := by first | assumption | omega) (hsb := by first | assumption | omega) (hcu := by first | assumption | omega) (hcb := by first | assumption | omega) (hsk := by first | assumption | omega)) Y_X6_layAll (ml_X7_157) [12, 13, 14, 15, 1, 2, 5, 7, 9, 10, 11] [0, 3, 4, 6, 8, 16] rfl rfl rfl rfl (by decide) rfl rfl rfl dX7_parting_21 rfl rfl rfl (Nat.le_of_ble_eq_true rfl) ⟨Nat.le_of_ble_eq_true rfl, Nat.le_of_ble_eq_true rfl⟩ ⟨Nat.le_of_ble_eq_true rfl, Nat.le_of_ble_eq_true rfl⟩ ⟨rfl, rfl⟩ (fun w1 hQ => ?_)
      obtain ⟨sh1_3, fo1_3, ba1_3, rfl, hF21⟩ := hQ
      refine j_perm [(a0, .inr (7, [.ref aR, .ref aN, .ref aO, .ref aH, .ref aE, .ref aW, .ref aK, .ref aIm, .ref aKp, .ref aMb])), (aN, .inr (1, [.int (nI (t 0)), .int (nI (t 1)), .int (nI (t 2)), .ref aKd, .ref aFi, .ref aSe, .ref aSb, .ref aLd])), (aKd, .inl (cyI, 9, .inl (nA kd))), (aFi, .inl (cyI, 9, .inl (nA fi))), (aSe, .inl (cyI, 9, .inl (nA se))), (aSb, .inl (cyI, 9, .inl (nA sb))), (aLd, .inl (cyI, 3, .inl (nA ld))), (aO, .inr (4, [.ref aWi, .ref aCu, .ref aCb, .ref aSk])), (aWi, .inl (cyI, 3, .inl (nA wi))), (aCu, .inl (cyI, 9, .inl (nA cu))), (aCb, .inl (cyI, 9, .inl (nA cb))), (aSk, .inl (cyI, 9, .inl (nA sk))), (aW, .inr (6, [.ref aSh, .ref aN, .ref aO, .ref aFo, .ref aBa, .ref aRc, .int (bI gr)])), (aSh, .inl (cyI, 9, .inl (nA sh1_3))), (aFo, .inl (cyZ, 9, .inl (bA fo1_3))), (aBa, .inl (cyZ, 9, .inl (bA ba1_3))), (aRc, .inl (cyI, 7, .inl (nA rc)))] [0, 10, 11, 1, 2, 12, 3, 13, 4, 14, 15, 16, 6, 7, 8, 9, 5] rfl rfl (by decide) ?_
      refine j_iconst (v := (nI 1)) (pc' := 25) C dX7_parting_24 rfl (by decide +kernel) ?_
      refine j_aload_n (pc' := 26) C dX7_parting_25 rfl 0 rfl ?_
      refine j_get (v := .ref aN) (pc' := 29) C KX7 0 1 rfl (by decide) fl_X7_19 rfl rfl dX7_parting_26 rfl ?_
      refine j_get (v := .int (nI (t 1))) (pc' := 32) C KX1 1 1 rfl (by decide) fl_X7_183 rfl rfl dX7_parting_29 rfl ?_
      refine j_ishl (v := (nI (2 ^ (t 1)))) (pc' := 33) C dX7_parting_32 rfl (sh_1 (by omega)) ?_
      refine j_istore_n (pc' := 34) C [(3, .int (nI (2 ^ (t 1)))), (0, .ref a0), (1, .int (nI j)), (2, .int (nI q))] dX7_parting_33 rfl (by decide) rfl ?_
      refine j_iload_n (pc' := 35) C dX7_parting_34 rfl 0 rfl ?_
      refine j_iconst (v := (nI 1)) (pc' := 36) C dX7_parting_35 rfl (by decide +kernel) ?_
      refine j_isub (v := (nI ((2 ^ (t 1)) - 1))) (pc' := 37) C dX7_parting_36 rfl (pk_sub (Nat.two_pow_pos _)) ?_
      refine j_istore (pc' := 39) C [(4, .int (nI ((2 ^ (t 1)) - 1))), (3, .int (nI (2 ^ (t 1)))), (0, .ref a0), (1, .int (nI j)), (2, .int (nI q))] dX7_parting_37 rfl (by decide) rfl ?_
      refine j_aload_n (pc' := 40) C dX7_parting_39 rfl 2 rfl ?_
      refine j_get (v := .ref aN) (pc' := 43) C KX7 0 1 rfl (by decide) fl_X7_19 rfl rfl dX7_parting_40 rfl ?_
      refine j_get (v := .int (nI (t 1))) (pc' := 46) C KX1 1 1 rfl (by decide) fl_X7_183 rfl rfl dX7_parting_43 rfl ?_
      refine j_iconst (v := (nI 1)) (pc' := 47) C dX7_parting_46 rfl (by decide +kernel) ?_
      refine j_iadd (v := (nI ((t 1) + 1))) (pc' := 48) C dX7_parting_47 rfl (nI_add (t 1) 1) ?_
      refine j_istore (pc' := 50) C [(5, .int (nI ((t 1) + 1))), (4, .int (nI ((2 ^ (t 1)) - 1))), (3, .int (nI (2 ^ (t 1)))), (0, .ref a0), (1, .int (nI j)), (2, .int (nI q))] dX7_parting_48 rfl (by decide) rfl ?_
      refine j_iconst (v := (nI 0)) (pc' := 51) C dX7_parting_50 rfl (by decide +kernel) ?_
      refine j_istore (pc' := 53) C [(6, .int (nI 0)), (5, .int (nI ((t 1) + 1))), (4, .int (nI ((2 ^ (t 1)) - 1))), (3, .int (nI (2 ^ (t 1)))), (0, .ref a0), (1, .int (nI j)), (2, .int (nI q))] dX7_parting_51 rfl (by decide) rfl ?_
      refine j_lsub [(0, .ref a0), (1, .int (nI j)), (2, .int (nI q)), (3, .int (nI (2 ^ (t 1)))), (4, .int (nI ((2 ^ (t 1)) - 1))), (5, .int (nI ((t 1) + 1))), (6, .int (nI 0))] [4, 5, 6, 3, 2, 1, 0] rfl ?_
      refine j_loop5 (fun (i : Nat) (b : Nat) (w : Nat) (rc2 : Nat → Nat) (g2 : Bool) => [(a0, .inr (7, [.ref aR, .ref aN, .ref aO, .ref aH, .ref aE, .ref aW, .ref aK, .ref aIm, .ref aKp, .ref aMb])), (aN, .inr (1, [.int (nI (t 0)), .int (nI (t 1)), .int (nI (t 2)), .ref aKd, .ref aFi, .ref aSe, .ref aSb, .ref aLd])), (aKd, .inl (cyI, 9, .inl (nA kd))), (aFi, .inl (cyI, 9, .inl (nA fi))), (aSe, .inl (cyI, 9, .inl (nA se))), (aSb, .inl (cyI, 9, .inl (nA sb))), (aLd, .inl (cyI, 3, .inl (nA ld))), (aO, .inr (4, [.ref aWi, .ref aCu, .ref aCb, .ref aSk])), (aWi, .inl (cyI, 3, .inl (nA wi))), (aCu, .inl (cyI, 9, .inl (nA cu))), (aCb, .inl (cyI, 9, .inl (nA cb))), (aSk, .inl (cyI, 9, .inl (nA sk))), (aW, .inr (6, [.ref aSh, .ref aN, .ref aO, .ref aFo, .ref aBa, .ref aRc, .int (bI g2)])), (aSh, .inl (cyI, 9, .inl (nA sh1_3))), (aFo, .inl (cyZ, 9, .inl (bA fo1_3))), (aBa, .inl (cyZ, 9, .inl (bA ba1_3))), (aRc, .inl (cyI, 7, .inl (nA rc2)))]) (fun (i : Nat) (b : Nat) (w : Nat) (rc2 : Nat → Nat) (g2 : Bool) => [(0, .ref a0), (1, .int (nI j)), (2, .int (nI q)), (3, .int (nI (2 ^ (t 1)))), (4, .int (nI b)), (5, .int (nI w)), (6, .int (nI i))]) (fun (i : Nat) (b : Nat) (w : Nat) (rc2 : Nat → Nat) (g2 : Bool) => []) (fun (i : Nat) (b : Nat) (w : Nat) (rc2 : Nat → Nat) (g2 : Bool) => i ≤ 2 ^ t 1 ∧ w ≤ 10 ∧ (b, w) = paC (fun w9 => fedB t s j q w9) (t 1) i) (fun (i : Nat) (b : Nat) (w : Nat) (rc2 : Nat → Nat) (g2 : Bool) => 2 ^ t 1 - i) ?_ 0 ((2 ^ (t 1)) - 1) ((t 1) + 1) rc gr ?_
      · intro i b w rc2 g2 hI53 ih53
        obtain ⟨hi, hw9, hbw⟩ := hI53
        refine j_iload (pc' := 55) C dX7_parting_53 rfl 6 rfl ?_
        refine j_iload_n (pc' := 56) C dX7_parting_55 rfl 3 rfl ?_
        refine j_nc_ge (pc' := 59) C 101 dX7_parting_56 (by decide) rfl (by omega) (by omega) (fun c56 => ?_) (fun c56 => ?_)
        · refine j_iload (pc' := 103) C dX7_parting_101 rfl 4 rfl ?_
          exact j_iret C hr hk hA dX7_parting_103 (rfl) (⟨_, _, _, _, _, rfl, by unfold prQ; rw [if_neg (by rw [hin, hin2]; decide), nI_clamp (by omega), nI_clamp (by omega), ← pa_eq hT hj, ← show i = 2 ^ t 1 by omega, ← hbw]⟩)
        · have hpc := pc_n (t 1) (by omega) i c56
          refine j_iload (pc' := 61) C dX7_parting_59 rfl 6 rfl ?_
          refine j_cSi (As := [.int (nI i)]) (wr := [(a0, .inr (7, [.ref aR, .ref aN, .ref aO, .ref aH, .ref aE, .ref aW, .ref aK, .ref aIm, .ref aKp, .ref aMb])), (aN, .inr (1, [.int (nI (t 0)), .int (nI (t 1)), .int (nI (t 2)), .ref aKd, .ref aFi, .ref aSe, .ref aSb, .ref aLd])), (aKd, .inl (cyI, 9, .inl (nA kd))), (aFi, .inl (cyI, 9, .inl (nA fi))), (aSe, .inl (cyI, 9, .inl (nA se))), (aSb, .inl (cyI, 9, .inl (nA sb))), (aLd, .inl (cyI, 3, .inl (nA ld))), (aO, .inr (4, [.ref aWi, .ref aCu, .ref aCb, .ref aSk])), (aWi, .inl (cyI, 3, .inl (nA wi))), (aCu, .inl (cyI, 9, .inl (nA cu))), (aCb, .inl (cyI, 9, .inl (nA cb))), (aSk, .inl (cyI, 9, .inl (nA sk))), (aW, .inr (6, [.ref aSh, .ref aN, .ref aO, .ref aFo, .ref aBa, .ref aRc, .int (bI g2)])), (aSh, .inl (cyI, 9, .inl (nA sh1_3))), (aFo, .inl (cyZ, 9, .inl (bA fo1_3))), (aBa, .inl (cyZ, 9, .inl (bA ba1_3))), (aRc, .inl (cyI, 7, .inl (nA rc2)))]) (pc' := 64) C (c_J6_bitCount (v := i) (hv := by omega)) Y_J6_bitCount_0f7a4 (ml_X7_186) [] [0, 1, 2, 3, 4, 5, 6, 7, 8, 9, 10, 11, 12, 13, 14, 15, 16] rfl rfl rfl rfl (by decide) dX7_parting_61 rfl rfl rfl (Nat.le_of_ble_eq_true rfl) ⟨Nat.le_of_ble_eq_true rfl, Nat.le_of_ble_eq_true rfl⟩ ⟨Nat.le_of_ble_eq_true rfl, Nat.le_of_ble_eq_true rfl⟩ ⟨rfl, rfl⟩ (fun r4 w1 hQ => ?_)
          obtain ⟨rfl, rfl⟩ := hQ
          refine j_perm [(a0, .inr (7, [.ref aR, .ref aN, .ref aO, .ref aH, .ref aE, .ref aW, .ref aK, .ref aIm, .ref aKp, .ref aMb])), (aN, .inr (1, [.int (nI (t 0)), .int (nI (t 1)), .int (nI (t 2)), .ref aKd, .ref aFi, .ref aSe, .ref aSb, .ref aLd])), (aKd, .inl (cyI, 9, .inl (nA kd))), (aFi, .inl (cyI, 9, .inl (nA fi))), (aSe, .inl (cyI, 9, .inl (nA se))), (aSb, .inl (cyI, 9, .inl (nA sb))), (aLd, .inl (cyI, 3, .inl (nA ld))), (aO, .inr (4, [.ref aWi, .ref aCu, .ref aCb, .ref aSk])), (aWi, .inl (cyI, 3, .inl (nA wi))), (aCu, .inl (cyI, 9, .inl (nA cu))), (aCb, .inl (cyI, 9, .inl (nA cb))), (aSk, .inl (cyI, 9, .inl (nA sk))), (aW, .inr (6, [.ref aSh, .ref aN, .ref aO, .ref aFo, .ref aBa, .ref aRc, .int (bI g2)])), (aSh, .inl (cyI, 9, .inl (nA sh1_3))), (aFo, .inl (cyZ, 9, .inl (bA fo1_3))), (aBa, .inl (cyZ, 9, .inl (bA ba1_3))), (aRc, .inl (cyI, 7, .inl (nA rc2)))] [0, 1, 2, 3, 4, 5, 6, 7, 8, 9, 10, 11, 12, 13, 14, 15, 16] rfl rfl (by decide) ?_
          refine j_istore (pc' := 66) C [(7, .int (nI (pcN i))), (0, .ref a0), (1, .int (nI j)), (2, .int (nI q)), (3, .int (nI (2 ^ (t 1)))), (4, .int (nI b)), (5, .int (nI w)), (6, .int (nI i))] dX7_parting_64 rfl (by decide) rfl ?_
          refine j_iload (pc' := 68) C dX7_parting_66 rfl 0 rfl ?_
          refine j_iload (pc' := 70) C dX7_parting_68 rfl 6 rfl ?_
          refine j_nc_ge (pc' := 73) C 95 dX7_parting_70 (by decide) rfl (by omega) (by omega) (fun c70 => ?_) (fun c70 => ?_)
          · refine j_iinc (v := (nI (i + 1))) (pc' := 98) C [(6, .int (nI (i + 1))), (7, .int (nI (pcN i))), (0, .ref a0), (1, .int (nI j)), (2, .int (nI q)), (3, .int (nI (2 ^ (t 1)))), (4, .int (nI b)), (5, .int (nI w))] dX7_parting_95 rfl 7 rfl (inc_n i 1) (by decide) rfl ?_
            refine j_goto C 53 dX7_parting_98 (by decide) ?_
            refine j_lsub [(0, .ref a0), (1, .int (nI j)), (2, .int (nI q)), (3, .int (nI (2 ^ (t 1)))), (4, .int (nI b)), (5, .int (nI w)), (6, .int (nI (i + 1)))] [2, 3, 4, 5, 6, 7, 0] rfl ?_
            exact ih53 (i + 1) b w rc2 g2 (⟨by omega, by omega, by rw [paC, if_neg (fun q9 => by have := q9.1; rw [← hbw] at this; dsimp only at this; omega)]; exact hbw⟩) (by omega)
          · refine j_aload_n (pc' := 74) C dX7_parting_73 rfl 1 rfl ?_
            refine j_get (v := .ref aW) (pc' := 77) C KX7 0 5 rfl (by decide) fl_X7_49 rfl rfl dX7_parting_74 rfl ?_
            refine j_iload (pc' := 79) C dX7_parting_77 rfl 7 rfl ?_
            refine j_iload_n (pc' := 80) C dX7_parting_79 rfl 2 rfl ?_
            refine j_iload_n (pc' := 81) C dX7_parting_80 rfl 3 rfl ?_
            refine j_cVi (As := [.int (nI i), .int (nI j), .int (nI q)]) (wr := [(a0, .inr (7, [.ref aR, .ref aN, .ref aO, .ref aH, .ref aE, .ref aW, .ref aK, .ref aIm, .ref aKp, .ref aMb])), (aKd, .inl (cyI, 9, .inl (nA kd))), (aSb, .inl (cyI, 9, .inl (nA sb))), (aO, .inr (4, [.ref aWi, .ref aCu, .ref aCb, .ref aSk])), (aWi, .inl (cyI, 3, .inl (nA wi))), (aCu, .inl (cyI, 9, .inl (nA cu))), (aCb, .inl (cyI, 9, .inl (nA cb))), (aSk, .inl (cyI, 9, .inl (nA sk)))]) (pc' := 84) C (c_X6_feedsWithout (aW := aW) (aSh := aSh) (aN := aN) (aO := aO) (aFo := aFo) (aBa := aBa) (aRc := aRc) (gr := g2) (sh := sh1_3) (fo := fo1_3) (ba := ba1_3) (rc := rc2) (t := t) (aKd := aKd) (aFi := aFi) (aSe := aSe) (aSb := aSb) (aLd := aLd) (fi := fi) (se := se) (ld := ld) (s := s) (wo := i) (l := j) (st := q) (hT := by first | assumption | omega) (hfi := by first | assumption | omega) (hse := by first | assumption | omega) (hld := by first | assumption | omega) (hL := hF21) (hwo := by omega) (hl := hj) (hst := hq)) Y_X6_feedsWithout (ml_X7_191) [12, 13, 14, 15, 16, 1, 3, 4, 6] [0, 2, 5, 7, 8, 9, 10, 11] rfl rfl rfl rfl (by decide) rfl rfl rfl dX7_parting_81 rfl rfl rfl (Nat.le_of_ble_eq_true rfl) ⟨Nat.le_of_ble_eq_true rfl, Nat.le_of_ble_eq_true rfl⟩ ⟨Nat.le_of_ble_eq_true rfl, Nat.le_of_ble_eq_true rfl⟩ ⟨rfl, rfl⟩ (fun r5 w1 hQ => ?_)
            obtain ⟨rc1_5, g1_5, rfl, rfl⟩ := hQ
            refine j_perm [(a0, .inr (7, [.ref aR, .ref aN, .ref aO, .ref aH, .ref aE, .ref aW, .ref aK, .ref aIm, .ref aKp, .ref aMb])), (aN, .inr (1, [.int (nI (t 0)), .int (nI (t 1)), .int (nI (t 2)), .ref aKd, .ref aFi, .ref aSe, .ref aSb, .ref aLd])), (aKd, .inl (cyI, 9, .inl (nA kd))), (aFi, .inl (cyI, 9, .inl (nA fi))), (aSe, .inl (cyI, 9, .inl (nA se))), (aSb, .inl (cyI, 9, .inl (nA sb))), (aLd, .inl (cyI, 3, .inl (nA ld))), (aO, .inr (4, [.ref aWi, .ref aCu, .ref aCb, .ref aSk])), (aWi, .inl (cyI, 3, .inl (nA wi))), (aCu, .inl (cyI, 9, .inl (nA cu))), (aCb, .inl (cyI, 9, .inl (nA cb))), (aSk, .inl (cyI, 9, .inl (nA sk))), (aW, .inr (6, [.ref aSh, .ref aN, .ref aO, .ref aFo, .ref aBa, .ref aRc, .int (bI g1_5)])), (aSh, .inl (cyI, 9, .inl (nA sh1_3))), (aFo, .inl (cyZ, 9, .inl (bA fo1_3))), (aBa, .inl (cyZ, 9, .inl (bA ba1_3))), (aRc, .inl (cyI, 7, .inl (nA rc1_5)))] [0, 13, 1, 14, 15, 2, 16, 3, 4, 5, 6, 7, 8, 9, 10, 11, 12] rfl rfl (by decide) ?_
            refine j_b_ne (pc' := 87) C 95 dX7_parting_84 (by decide) rfl (fun c84 => ?_) (fun c84 => ?_)
            · refine j_iinc (v := (nI (i + 1))) (pc' := 98) C [(6, .int (nI (i + 1))), (7, .int (nI (pcN i))), (0, .ref a0), (1, .int (nI j)), (2, .int (nI q)), (3, .int (nI (2 ^ (t 1)))), (4, .int (nI b)), (5, .int (nI w))] dX7_parting_95 rfl 7 rfl (inc_n i 1) (by decide) rfl ?_
              refine j_goto C 53 dX7_parting_98 (by decide) ?_
              refine j_lsub [(0, .ref a0), (1, .int (nI j)), (2, .int (nI q)), (3, .int (nI (2 ^ (t 1)))), (4, .int (nI b)), (5, .int (nI w)), (6, .int (nI (i + 1)))] [2, 3, 4, 5, 6, 7, 0] rfl ?_
              exact ih53 (i + 1) b w rc1_5 g1_5 (⟨by omega, by omega, by rw [paC, if_neg (fun q9 => by have := q9.2; rw [c84] at this; cases this)]; exact hbw⟩) (by omega)
            · refine j_iload (pc' := 89) C dX7_parting_87 rfl 7 rfl ?_
              refine j_istore (pc' := 91) C [(4, .int (nI i)), (7, .int (nI (pcN i))), (0, .ref a0), (1, .int (nI j)), (2, .int (nI q)), (3, .int (nI (2 ^ (t 1)))), (5, .int (nI w)), (6, .int (nI i))] dX7_parting_89 rfl (by decide) rfl ?_
              refine j_iload (pc' := 93) C dX7_parting_91 rfl 1 rfl ?_
              refine j_istore (pc' := 95) C [(5, .int (nI (pcN i))), (4, .int (nI i)), (7, .int (nI (pcN i))), (0, .ref a0), (1, .int (nI j)), (2, .int (nI q)), (3, .int (nI (2 ^ (t 1)))), (6, .int (nI i))] dX7_parting_93 rfl (by decide) rfl ?_
              refine j_iinc (v := (nI (i + 1))) (pc' := 98) C [(6, .int (nI (i + 1))), (5, .int (nI (pcN i))), (4, .int (nI i)), (7, .int (nI (pcN i))), (0, .ref a0), (1, .int (nI j)), (2, .int (nI q)), (3, .int (nI (2 ^ (t 1))))] dX7_parting_95 rfl 7 rfl (inc_n i 1) (by decide) rfl ?_
              refine j_goto C 53 dX7_parting_98 (by decide) ?_
              refine j_lsub [(0, .ref a0), (1, .int (nI j)), (2, .int (nI q)), (3, .int (nI (2 ^ (t 1)))), (4, .int (nI i)), (5, .int (nI (pcN i))), (6, .int (nI (i + 1)))] [4, 5, 6, 7, 2, 1, 0] rfl ?_
              exact ih53 (i + 1) i (pcN i) rc1_5 g1_5 (⟨by omega, by omega, by rw [paC, if_pos ⟨by rw [← hbw]; exact c70, c84⟩]⟩) (by omega)
      · exact ⟨Nat.zero_le _, by omega, rfl⟩
    · refine j_iconst (v := (-1)) (pc' := 16) C dX7_parting_15 rfl (by decide +kernel) ?_
      exact j_iret C hr hk hA dX7_parting_16 (rfl) (⟨_, _, _, _, _, rfl, by unfold prQ; rw [if_pos (by rw [c12, Bool.and_false])]⟩)

set_option maxHeartbeats 4000000 in
set_option maxRecDepth 100000 in
theorem c_X7_commonDivisor {lch : Launch} {dG : va_G} {cyI cyZ cyO : ClassId} (u : Nat) (v : Nat) (hu : u < 2147483648) (hv : v < 2147483648) (hv0 : 0 < v) : Ki lch yX7_commonDivisor cX7_commonDivisor 6 .int (rmk 1) dG (cyI, cyZ, cyO) [.int (nI u), .int (nI v)] [] (fun r w1 => w1 = [] ∧ r = (nI (Nat.gcd u v))) := by
  refine Ki.of (own := RX7) rfl (by decide) (Nat.le_of_ble_eq_true rfl) (fun p0 e0 s0 m0 ar0 be0 me0 cd0 A0 C hr hk hnm hA => ?_)
  refine j_lsub [(0, .int (nI u)), (1, .int (nI v))] [0, 1] rfl ?_
  refine j_iload_n (pc' := 1) C dX7_commonDivisor_0 rfl 0 rfl ?_
  refine j_istore_n (pc' := 2) C [(2, .int (nI u)), (0, .int (nI u)), (1, .int (nI v))] dX7_commonDivisor_1 rfl (by decide) rfl ?_
  refine j_iload_n (pc' := 3) C dX7_commonDivisor_2 rfl 2 rfl ?_
  refine j_istore_n (pc' := 4) C [(3, .int (nI v)), (2, .int (nI u)), (0, .int (nI u)), (1, .int (nI v))] dX7_commonDivisor_3 rfl (by decide) rfl ?_
  refine j_iconst (v := (nI 0)) (pc' := 5) C dX7_commonDivisor_4 rfl (by decide +kernel) ?_
  refine j_istore (pc' := 7) C [(4, .int (nI 0)), (3, .int (nI v)), (2, .int (nI u)), (0, .int (nI u)), (1, .int (nI v))] dX7_commonDivisor_5 rfl (by decide) rfl ?_
  refine j_lsub [(0, .int (nI u)), (1, .int (nI v)), (2, .int (nI u)), (3, .int (nI v)), (4, .int (nI 0))] [3, 4, 2, 1, 0] rfl ?_
  refine j_loop3 (fun (i : Nat) (a : Nat) (b : Nat) => []) (fun (i : Nat) (a : Nat) (b : Nat) => [(0, .int (nI u)), (1, .int (nI v)), (2, .int (nI a)), (3, .int (nI b)), (4, .int (nI i))]) (fun (i : Nat) (a : Nat) (b : Nat) => []) (fun (i : Nat) (a : Nat) (b : Nat) => i ≤ 64 ∧ EU u v i a b) (fun (i : Nat) (a : Nat) (b : Nat) => 64 - i) ?_ 0 u v ?_
  · intro i a b hI7 ih7
    obtain ⟨hi, hE⟩ := hI7
    have hlt := EU_lt hE hu hv
    refine j_iload (pc' := 9) C dX7_commonDivisor_7 rfl 4 rfl ?_
    refine j_bipush (v := (nI 64)) (pc' := 11) C dX7_commonDivisor_9 rfl (by decide +kernel) ?_
    refine j_nc_ge (pc' := 14) C 34 dX7_commonDivisor_11 (by decide) rfl (by omega) (by omega) (fun c11 => ?_) (fun c11 => ?_)
    · have he := EU_end hE (EU_64 (show EU u v 64 a b by rw [← show i = 64 by omega]; exact hE) hu hv) hv0
      have hg0 := Nat.gcd_pos_of_pos_right u hv0
      refine j_iload_n (pc' := 35) C dX7_commonDivisor_34 rfl 2 rfl ?_
      refine j_if_le (pc' := 38) C 42 dX7_commonDivisor_35 (by decide) rfl (fun c35 => ?_) (fun c35 => ?_)
      · exact absurd c35 (by rw [i_le, i_0, nI_toInt (by omega)]; omega)
      · refine j_iload_n (pc' := 39) C dX7_commonDivisor_38 rfl 2 rfl ?_
        refine j_goto C 43 dX7_commonDivisor_39 (by decide) ?_
        exact j_iret C hr hk hA dX7_commonDivisor_43 (rfl) (⟨rfl, by rw [he]⟩)
    · refine j_iload_n (pc' := 15) C dX7_commonDivisor_14 rfl 3 rfl ?_
      refine j_nz_eq (pc' := 18) C 34 dX7_commonDivisor_15 (by decide) rfl (by omega) (fun c15 => ?_) (fun c15 => ?_)
      · have he := EU_end hE c15 hv0
        have hg0 := Nat.gcd_pos_of_pos_right u hv0
        refine j_iload_n (pc' := 35) C dX7_commonDivisor_34 rfl 2 rfl ?_
        refine j_if_le (pc' := 38) C 42 dX7_commonDivisor_35 (by decide) rfl (fun c35 => ?_) (fun c35 => ?_)
        · exact absurd c35 (by rw [i_le, i_0, nI_toInt (by omega)]; omega)
        · refine j_iload_n (pc' := 39) C dX7_commonDivisor_38 rfl 2 rfl ?_
          refine j_goto C 43 dX7_commonDivisor_39 (by decide) ?_
          exact j_iret C hr hk hA dX7_commonDivisor_43 (rfl) (⟨rfl, by rw [he]⟩)
      · refine j_iload_n (pc' := 19) C dX7_commonDivisor_18 rfl 2 rfl ?_
        refine j_iload_n (pc' := 20) C dX7_commonDivisor_19 rfl 3 rfl ?_
        refine j_irem (v := (nI (a % b))) (pc' := 21) C dX7_commonDivisor_20 rfl (nI_ne0 (by omega) (by omega)) (pk_rem (by omega) (by omega) (by omega)) ?_
        refine j_istore (pc' := 23) C [(5, .int (nI (a % b))), (0, .int (nI u)), (1, .int (nI v)), (2, .int (nI a)), (3, .int (nI b)), (4, .int (nI i))] dX7_commonDivisor_21 rfl (by decide) rfl ?_
        refine j_iload_n (pc' := 24) C dX7_commonDivisor_23 rfl 4 rfl ?_
        refine j_istore_n (pc' := 25) C [(2, .int (nI b)), (5, .int (nI (a % b))), (0, .int (nI u)), (1, .int (nI v)), (3, .int (nI b)), (4, .int (nI i))] dX7_commonDivisor_24 rfl (by decide) rfl ?_
        refine j_iload (pc' := 27) C dX7_commonDivisor_25 rfl 1 rfl ?_
        refine j_istore_n (pc' := 28) C [(3, .int (nI (a % b))), (2, .int (nI b)), (5, .int (nI (a % b))), (0, .int (nI u)), (1, .int (nI v)), (4, .int (nI i))] dX7_commonDivisor_27 rfl (by decide) rfl ?_
        refine j_iinc (v := (nI (i + 1))) (pc' := 31) C [(4, .int (nI (i + 1))), (3, .int (nI (a % b))), (2, .int (nI b)), (5, .int (nI (a % b))), (0, .int (nI u)), (1, .int (nI v))] dX7_commonDivisor_28 rfl 5 rfl (inc_n i 1) (by decide) rfl ?_
        refine j_goto C 7 dX7_commonDivisor_31 (by decide) ?_
        refine j_lsub [(0, .int (nI u)), (1, .int (nI v)), (2, .int (nI b)), (3, .int (nI (a % b))), (4, .int (nI (i + 1)))] [4, 5, 2, 1, 0] rfl ?_
        exact ih7 (i + 1) b (a % b) (⟨by omega, EU_s hE c15⟩) (by omega)
  · exact ⟨Nat.zero_le _, Or.inl ⟨rfl, rfl, rfl⟩⟩

set_option maxHeartbeats 4000000 in
set_option maxRecDepth 100000 in
theorem c_X7_odds {lch : Launch} {dG : va_G} {cyI cyZ cyO : ClassId} (a0 : Nat) (aR : Nat) (aN : Nat) (aO : Nat) (aH : Nat) (aE : Nat) (aW : Nat) (aK : Nat) (aIm : Nat) (aKp : Nat) (aMb : Nat) (t : Nat → Nat) (aKd : Nat) (aFi : Nat) (aSe : Nat) (aSb : Nat) (aLd : Nat) (kd : Nat → Nat) (fi : Nat → Nat) (se : Nat → Nat) (sb : Nat → Nat) (ld : Nat → Nat) (aWi : Nat) (aCu : Nat) (aCb : Nat) (aSk : Nat) (wi : Nat → Nat) (cu : Nat → Nat) (cb : Nat → Nat) (sk : Nat → Nat) (aSh : Nat) (aFo : Nat) (aBa : Nat) (aRc : Nat) (gr : Bool) (sh : Nat → Nat) (fo : Nat → Bool) (ba : Nat → Bool) (rc : Nat → Nat) (s : Nat → Nat) (x : Int32) (l : Int32) (v : Int32) (w : Int32) (hT : WT t) (hS : WS s) (hN : RN t kd fi se sb ld) (hR : RS s wi cu cb sk) : Ki lch yX7_odds cX7_odds 9 .int (rmk 5) dG (cyI, cyZ, cyO) [.ref a0, .int x, .int l, .int v, .int w] [(a0, .inr (7, [.ref aR, .ref aN, .ref aO, .ref aH, .ref aE, .ref aW, .ref aK, .ref aIm, .ref aKp, .ref aMb])), (aN, .inr (1, [.int (nI (t 0)), .int (nI (t 1)), .int (nI (t 2)), .ref aKd, .ref aFi, .ref aSe, .ref aSb, .ref aLd])), (aKd, .inl (cyI, 9, .inl (nA kd))), (aFi, .inl (cyI, 9, .inl (nA fi))), (aSe, .inl (cyI, 9, .inl (nA se))), (aSb, .inl (cyI, 9, .inl (nA sb))), (aLd, .inl (cyI, 3, .inl (nA ld))), (aO, .inr (4, [.ref aWi, .ref aCu, .ref aCb, .ref aSk])), (aWi, .inl (cyI, 3, .inl (nA wi))), (aCu, .inl (cyI, 9, .inl (nA cu))), (aCb, .inl (cyI, 9, .inl (nA cb))), (aSk, .inl (cyI, 9, .inl (nA sk))), (aW, .inr (6, [.ref aSh, .ref aN, .ref aO, .ref aFo, .ref aBa, .ref aRc, .int (bI gr)])), (aSh, .inl (cyI, 9, .inl (nA sh))), (aFo, .inl (cyZ, 9, .inl (bA fo))), (aBa, .inl (cyZ, 9, .inl (bA ba))), (aRc, .inl (cyI, 7, .inl (nA rc)))] (fun r w1 => ∃ (sh1 : Nat → Nat), ∃ (fo1 : Nat → Bool), ∃ (ba1 : Nat → Bool), ∃ (rc1 : Nat → Nat), ∃ (g1 : Bool), w1 = [(a0, .inr (7, [.ref aR, .ref aN, .ref aO, .ref aH, .ref aE, .ref aW, .ref aK, .ref aIm, .ref aKp, .ref aMb])), (aN, .inr (1, [.int (nI (t 0)), .int (nI (t 1)), .int (nI (t 2)), .ref aKd, .ref aFi, .ref aSe, .ref aSb, .ref aLd])), (aKd, .inl (cyI, 9, .inl (nA kd))), (aFi, .inl (cyI, 9, .inl (nA fi))), (aSe, .inl (cyI, 9, .inl (nA se))), (aSb, .inl (cyI, 9, .inl (nA sb))), (aLd, .inl (cyI, 3, .inl (nA ld))), (aO, .inr (4, [.ref aWi, .ref aCu, .ref aCb, .ref aSk])), (aWi, .inl (cyI, 3, .inl (nA wi))), (aCu, .inl (cyI, 9, .inl (nA cu))), (aCb, .inl (cyI, 9, .inl (nA cb))), (aSk, .inl (cyI, 9, .inl (nA sk))), (aW, .inr (6, [.ref aSh, .ref aN, .ref aO, .ref aFo, .ref aBa, .ref aRc, .int (bI g1)])), (aSh, .inl (cyI, 9, .inl (nA sh1))), (aFo, .inl (cyZ, 9, .inl (bA fo1))), (aBa, .inl (cyZ, 9, .inl (bA ba1))), (aRc, .inl (cyI, 7, .inl (nA rc1)))] ∧ r = odQ t s x l v w) := by
  have h1 := hT.n
  have hkd : ∀ c, c < t 1 → kd c = t (3 + c) := fun c hc => (hN.1 c hc).1
  have hfi : ∀ c, c < t 1 → fi c = t (12 + c) := fun c hc => (hN.1 c hc).2.1
  have hse : ∀ c, c < t 1 → se c = t (21 + c) := fun c hc => (hN.1 c hc).2.2.1
  have hsb : ∀ c, c < t 1 → sb c = t (30 + c) := fun c hc => (hN.1 c hc).2.2.2
  have hld : ∀ l, l < t 2 → ld l = t (39 + l) := hN.2
  have hwi : ∀ l, l < 3 → wi l = s l := hR.1
  have hcu : ∀ c, c < 9 → cu c = s (3 + c) := fun c hc => (hR.2 c hc).1
  have hcb : ∀ c, c < 9 → cb c = s (12 + c) := fun c hc => (hR.2 c hc).2.1
  have hsk : ∀ c, c < 9 → sk c = s (21 + c) := fun c hc => (hR.2 c hc).2.2
  have hp9 := p2_9 h1.2.2.1
  have ht9 := p10_9 h1.2.2.1
  have ht0 : 0 < 10 ^ t 1 := Nat.pow_pos (by decide)
  refine Ki.of (own := RX7) rfl (by decide) (Nat.le_of_ble_eq_true rfl) (fun p0 e0 s0 m0 ar0 be0 me0 cd0 A0 C hr hk hnm hA => ?_)
  refine j_lsub [(0, .ref a0), (1, .int x), (2, .int l), (3, .int v), (4, .int w)] [0, 1, 2, 3, 4] rfl ?_
  refine j_iload_n (pc' := 1) C dX7_odds_0 rfl 1 rfl ?_
  refine j_if_lt (pc' := 4) C 36 dX7_odds_1 (by decide) rfl (fun c1 => ?_) (fun c1 => ?_)
  · refine j_iconst (v := (-1)) (pc' := 37) C dX7_odds_36 rfl (by decide +kernel) ?_
    exact j_iret C hr hk hA dX7_odds_37 (rfl) (⟨_, _, _, _, _, rfl, by unfold odQ; rw [if_pos (by rw [in_lo c1]; rfl)]⟩)
  · refine j_iload_n (pc' := 5) C dX7_odds_4 rfl 1 rfl ?_
    refine j_bipush (v := (nI 10)) (pc' := 7) C dX7_odds_5 rfl (by decide +kernel) ?_
    refine j_ic_gt (pc' := 10) C 36 dX7_odds_7 (by decide) rfl (fun c7 => ?_) (fun c7 => ?_)
    · refine j_iconst (v := (-1)) (pc' := 37) C dX7_odds_36 rfl (by decide +kernel) ?_
      exact j_iret C hr hk hA dX7_odds_37 (rfl) (⟨_, _, _, _, _, rfl, by unfold odQ; rw [if_pos (by rw [in_hi3 (a := 10) (by decide) c7]; rfl)]⟩)
    · obtain ⟨y, hy, rfl⟩ := inR_t (in_ok3 (a := 10) (by decide) c1 c7) (by decide)
      have hin0 := inR_n (j := y) (n := 11) hy (by decide)
      refine j_aload_n (pc' := 11) C dX7_odds_10 rfl 0 rfl ?_
      refine j_iload_n (pc' := 12) C dX7_odds_11 rfl 2 rfl ?_
      refine j_cVi (As := [.int l]) (wr := [(aKd, .inl (cyI, 9, .inl (nA kd))), (aFi, .inl (cyI, 9, .inl (nA fi))), (aSe, .inl (cyI, 9, .inl (nA se))), (aSb, .inl (cyI, 9, .inl (nA sb))), (aLd, .inl (cyI, 3, .inl (nA ld))), (aO, .inr (4, [.ref aWi, .ref aCu, .ref aCb, .ref aSk])), (aWi, .inl (cyI, 3, .inl (nA wi))), (aCu, .inl (cyI, 9, .inl (nA cu))), (aCb, .inl (cyI, 9, .inl (nA cb))), (aSk, .inl (cyI, 9, .inl (nA sk))), (aW, .inr (6, [.ref aSh, .ref aN, .ref aO, .ref aFo, .ref aBa, .ref aRc, .int (bI gr)])), (aSh, .inl (cyI, 9, .inl (nA sh))), (aFo, .inl (cyZ, 9, .inl (bA fo))), (aBa, .inl (cyZ, 9, .inl (bA ba))), (aRc, .inl (cyI, 7, .inl (nA rc)))]) (pc' := 15) C (c_X7_isLoad (a0 := a0) (aR := aR) (aN := aN) (aO := aO) (aH := aH) (aE := aE) (aW := aW) (aK := aK) (aIm := aIm) (aKp := aKp) (aMb := aMb) (t := t) (aKd := aKd) (aFi := aFi) (aSe := aSe) (aSb := aSb) (aLd := aLd) (v := l) (hT := by first | assumption | omega)) Y_X7_isLoad (ml_X7_129) [0, 1] [2, 3, 4, 5, 6, 7, 8, 9, 10, 11, 12, 13, 14, 15, 16] rfl rfl rfl rfl (by decide) rfl rfl rfl dX7_odds_12 rfl rfl rfl (Nat.le_of_ble_eq_true rfl) ⟨Nat.le_of_ble_eq_true rfl, Nat.le_of_ble_eq_true rfl⟩ ⟨Nat.le_of_ble_eq_true rfl, Nat.le_of_ble_eq_true rfl⟩ ⟨rfl, rfl⟩ (fun r1 w1 hQ => ?_)
      obtain ⟨rfl, rfl⟩ := hQ
      refine j_perm [(a0, .inr (7, [.ref aR, .ref aN, .ref aO, .ref aH, .ref aE, .ref aW, .ref aK, .ref aIm, .ref aKp, .ref aMb])), (aN, .inr (1, [.int (nI (t 0)), .int (nI (t 1)), .int (nI (t 2)), .ref aKd, .ref aFi, .ref aSe, .ref aSb, .ref aLd])), (aKd, .inl (cyI, 9, .inl (nA kd))), (aFi, .inl (cyI, 9, .inl (nA fi))), (aSe, .inl (cyI, 9, .inl (nA se))), (aSb, .inl (cyI, 9, .inl (nA sb))), (aLd, .inl (cyI, 3, .inl (nA ld))), (aO, .inr (4, [.ref aWi, .ref aCu, .ref aCb, .ref aSk])), (aWi, .inl (cyI, 3, .inl (nA wi))), (aCu, .inl (cyI, 9, .inl (nA cu))), (aCb, .inl (cyI, 9, .inl (nA cb))), (aSk, .inl (cyI, 9, .inl (nA sk))), (aW, .inr (6, [.ref aSh, .ref aN, .ref aO, .ref aFo, .ref aBa, .ref aRc, .int (bI gr)])), (aSh, .inl (cyI, 9, .inl (nA sh))), (aFo, .inl (cyZ, 9, .inl (bA fo))), (aBa, .inl (cyZ, 9, .inl (bA ba))), (aRc, .inl (cyI, 7, .inl (nA rc)))] [15, 16, 0, 1, 2, 3, 4, 5, 6, 7, 8, 9, 10, 11, 12, 13, 14] rfl rfl (by decide) ?_
      refine j_b_eq (pc' := 18) C 36 dX7_odds_15 (by decide) rfl (fun c15 => ?_) (fun c15 => ?_)
      · refine j_iconst (v := (-1)) (pc' := 37) C dX7_odds_36 rfl (by decide +kernel) ?_
        exact j_iret C hr hk hA dX7_odds_37 (rfl) (⟨_, _, _, _, _, rfl, by unfold odQ; rw [if_pos (by rw [c15, Bool.and_false]; rfl)]⟩)
      · obtain ⟨j, hj, rfl⟩ := inR_t (c15) (by omega)
        have hin := inR_n (j := j) (n := t 2) hj (by omega)
        refine j_iload_n (pc' := 19) C dX7_odds_18 rfl 3 rfl ?_
        refine j_cSi (As := [.int v]) (wr := [(a0, .inr (7, [.ref aR, .ref aN, .ref aO, .ref aH, .ref aE, .ref aW, .ref aK, .ref aIm, .ref aKp, .ref aMb])), (aN, .inr (1, [.int (nI (t 0)), .int (nI (t 1)), .int (nI (t 2)), .ref aKd, .ref aFi, .ref aSe, .ref aSb, .ref aLd])), (aKd, .inl (cyI, 9, .inl (nA kd))), (aFi, .inl (cyI, 9, .inl (nA fi))), (aSe, .inl (cyI, 9, .inl (nA se))), (aSb, .inl (cyI, 9, .inl (nA sb))), (aLd, .inl (cyI, 3, .inl (nA ld))), (aO, .inr (4, [.ref aWi, .ref aCu, .ref aCb, .ref aSk])), (aWi, .inl (cyI, 3, .inl (nA wi))), (aCu, .inl (cyI, 9, .inl (nA cu))), (aCb, .inl (cyI, 9, .inl (nA cb))), (aSk, .inl (cyI, 9, .inl (nA sk))), (aW, .inr (6, [.ref aSh, .ref aN, .ref aO, .ref aFo, .ref aBa, .ref aRc, .int (bI gr)])), (aSh, .inl (cyI, 9, .inl (nA sh))), (aFo, .inl (cyZ, 9, .inl (bA fo))), (aBa, .inl (cyZ, 9, .inl (bA ba))), (aRc, .inl (cyI, 7, .inl (nA rc)))]) (pc' := 22) C (c_X7_isState (v := v) ) Y_X7_isState (ml_X7_174) [] [0, 1, 2, 3, 4, 5, 6, 7, 8, 9, 10, 11, 12, 13, 14, 15, 16] rfl rfl rfl rfl (by decide) dX7_odds_19 rfl rfl rfl (Nat.le_of_ble_eq_true rfl) ⟨Nat.le_of_ble_eq_true rfl, Nat.le_of_ble_eq_true rfl⟩ ⟨Nat.le_of_ble_eq_true rfl, Nat.le_of_ble_eq_true rfl⟩ ⟨rfl, rfl⟩ (fun r2 w1 hQ => ?_)
        obtain ⟨rfl, rfl⟩ := hQ
        refine j_perm [(a0, .inr (7, [.ref aR, .ref aN, .ref aO, .ref aH, .ref aE, .ref aW, .ref aK, .ref aIm, .ref aKp, .ref aMb])), (aN, .inr (1, [.int (nI (t 0)), .int (nI (t 1)), .int (nI (t 2)), .ref aKd, .ref aFi, .ref aSe, .ref aSb, .ref aLd])), (aKd, .inl (cyI, 9, .inl (nA kd))), (aFi, .inl (cyI, 9, .inl (nA fi))), (aSe, .inl (cyI, 9, .inl (nA se))), (aSb, .inl (cyI, 9, .inl (nA sb))), (aLd, .inl (cyI, 3, .inl (nA ld))), (aO, .inr (4, [.ref aWi, .ref aCu, .ref aCb, .ref aSk])), (aWi, .inl (cyI, 3, .inl (nA wi))), (aCu, .inl (cyI, 9, .inl (nA cu))), (aCb, .inl (cyI, 9, .inl (nA cb))), (aSk, .inl (cyI, 9, .inl (nA sk))), (aW, .inr (6, [.ref aSh, .ref aN, .ref aO, .ref aFo, .ref aBa, .ref aRc, .int (bI gr)])), (aSh, .inl (cyI, 9, .inl (nA sh))), (aFo, .inl (cyZ, 9, .inl (bA fo))), (aBa, .inl (cyZ, 9, .inl (bA ba))), (aRc, .inl (cyI, 7, .inl (nA rc)))] [0, 1, 2, 3, 4, 5, 6, 7, 8, 9, 10, 11, 12, 13, 14, 15, 16] rfl rfl (by decide) ?_
        refine j_b_eq (pc' := 25) C 36 dX7_odds_22 (by decide) rfl (fun c22 => ?_) (fun c22 => ?_)
        · refine j_iconst (v := (-1)) (pc' := 37) C dX7_odds_36 rfl (by decide +kernel) ?_
          exact j_iret C hr hk hA dX7_odds_37 (rfl) (⟨_, _, _, _, _, rfl, by unfold odQ; rw [if_pos (by rw [c22, Bool.and_false]; rfl)]⟩)
        · obtain ⟨q, hq, rfl⟩ := inR_t (c22) (by decide)
          have hin2 := inR_n (j := q) (n := 16) hq (by decide)
          refine j_iload (pc' := 27) C dX7_odds_25 rfl 4 rfl ?_
          refine j_if_lt (pc' := 30) C 36 dX7_odds_27 (by decide) rfl (fun c27 => ?_) (fun c27 => ?_)
          · refine j_iconst (v := (-1)) (pc' := 37) C dX7_odds_36 rfl (by decide +kernel) ?_
            exact j_iret C hr hk hA dX7_odds_37 (rfl) (⟨_, _, _, _, _, rfl, by unfold odQ; rw [if_pos (by rw [in_lo c27, Bool.and_false])]⟩)
          · refine j_iload (pc' := 32) C dX7_odds_30 rfl 4 rfl ?_
            refine j_iconst (v := (nI 1)) (pc' := 33) C dX7_odds_32 rfl (by decide +kernel) ?_
            refine j_ic_le (pc' := 36) C 38 dX7_odds_33 (by decide) rfl (fun c33 => ?_) (fun c33 => ?_)
            · obtain ⟨p, hp, rfl⟩ := inR_t (in_ok2 (a := 1) (by decide) c27 c33) (by decide)
              have hin3 := inR_n (j := p) (n := 2) hp (by decide)
              refine j_aload_n (pc' := 39) C dX7_odds_38 rfl 0 rfl ?_
              refine j_get (v := .ref aW) (pc' := 42) C KX7 0 5 rfl (by decide) fl_X7_49 rfl rfl dX7_odds_39 rfl ?_
              refine j_cVv (As := []) (wr := [(a0, .inr (7, [.ref aR, .ref aN, .ref aO, .ref aH, .ref aE, .ref aW, .ref aK, .ref aIm, .ref aKp, .ref aMb])), (aFi, .inl (cyI, 9, .inl (nA fi))), (aSe, .inl (cyI, 9, .inl (nA se))), (aLd, .inl (cyI, 3, .inl (nA ld))), (aWi, .inl (cyI, 3, .inl (nA wi))), (aRc, .inl (cyI, 7, .inl (nA rc)))]) (pc' := 45) C (c_X6_layAll (aW := aW) (aSh := aSh) (aN := aN) (aO := aO) (aFo := aFo) (aBa := aBa) (aRc := aRc) (gr := gr) (sh := sh) (fo := fo) (ba := ba) (t := t) (aKd := aKd) (aFi := aFi) (aSe := aSe) (aSb := aSb) (aLd := aLd) (kd := kd) (sb := sb) (aWi := aWi) (aCu := aCu) (aCb := aCb) (aSk := aSk) (cu := cu) (cb := cb) (sk := sk) (s := s) (hT := by first | assumption | omega) (hS := by first | assumption | omega) (hkd := by first | assumption | omega) (hsb := by first | assumption | omega) (hcu := by first | assumption | omega) (hcb := by first | assumption | omega) (hsk := by first | assumption | omega)) Y_X6_layAll (ml_X7_157) [12, 13, 14, 15, 1, 2, 5, 7, 9, 10, 11] [0, 3, 4, 6, 8, 16] rfl rfl rfl rfl (by decide) rfl rfl rfl dX7_odds_42 rfl rfl rfl (Nat.le_of_ble_eq_true rfl) ⟨Nat.le_of_ble_eq_true rfl, Nat.le_of_ble_eq_true rfl⟩ ⟨Nat.le_of_ble_eq_true rfl, Nat.le_of_ble_eq_true rfl⟩ ⟨rfl, rfl⟩ (fun w1 hQ => ?_)
              obtain ⟨sh1_3, fo1_3, ba1_3, rfl, hF42⟩ := hQ
              refine j_perm [(a0, .inr (7, [.ref aR, .ref aN, .ref aO, .ref aH, .ref aE, .ref aW, .ref aK, .ref aIm, .ref aKp, .ref aMb])), (aN, .inr (1, [.int (nI (t 0)), .int (nI (t 1)), .int (nI (t 2)), .ref aKd, .ref aFi, .ref aSe, .ref aSb, .ref aLd])), (aKd, .inl (cyI, 9, .inl (nA kd))), (aFi, .inl (cyI, 9, .inl (nA fi))), (aSe, .inl (cyI, 9, .inl (nA se))), (aSb, .inl (cyI, 9, .inl (nA sb))), (aLd, .inl (cyI, 3, .inl (nA ld))), (aO, .inr (4, [.ref aWi, .ref aCu, .ref aCb, .ref aSk])), (aWi, .inl (cyI, 3, .inl (nA wi))), (aCu, .inl (cyI, 9, .inl (nA cu))), (aCb, .inl (cyI, 9, .inl (nA cb))), (aSk, .inl (cyI, 9, .inl (nA sk))), (aW, .inr (6, [.ref aSh, .ref aN, .ref aO, .ref aFo, .ref aBa, .ref aRc, .int (bI gr)])), (aSh, .inl (cyI, 9, .inl (nA sh1_3))), (aFo, .inl (cyZ, 9, .inl (bA fo1_3))), (aBa, .inl (cyZ, 9, .inl (bA ba1_3))), (aRc, .inl (cyI, 7, .inl (nA rc)))] [0, 10, 11, 1, 2, 12, 3, 13, 4, 14, 15, 16, 6, 7, 8, 9, 5] rfl rfl (by decide) ?_
              refine j_bipush (v := (nI 10)) (pc' := 47) C dX7_odds_45 rfl (by decide +kernel) ?_
              refine j_aload_n (pc' := 48) C dX7_odds_47 rfl 0 rfl ?_
              refine j_get (v := .ref aN) (pc' := 51) C KX7 0 1 rfl (by decide) fl_X7_19 rfl rfl dX7_odds_48 rfl ?_
              refine j_get (v := .int (nI (t 1))) (pc' := 54) C KX1 1 1 rfl (by decide) fl_X7_183 rfl rfl dX7_odds_51 rfl ?_
              refine j_cSi (As := [.int (nI 10), .int (nI (t 1))]) (wr := [(a0, .inr (7, [.ref aR, .ref aN, .ref aO, .ref aH, .ref aE, .ref aW, .ref aK, .ref aIm, .ref aKp, .ref aMb])), (aN, .inr (1, [.int (nI (t 0)), .int (nI (t 1)), .int (nI (t 2)), .ref aKd, .ref aFi, .ref aSe, .ref aSb, .ref aLd])), (aKd, .inl (cyI, 9, .inl (nA kd))), (aFi, .inl (cyI, 9, .inl (nA fi))), (aSe, .inl (cyI, 9, .inl (nA se))), (aSb, .inl (cyI, 9, .inl (nA sb))), (aLd, .inl (cyI, 3, .inl (nA ld))), (aO, .inr (4, [.ref aWi, .ref aCu, .ref aCb, .ref aSk])), (aWi, .inl (cyI, 3, .inl (nA wi))), (aCu, .inl (cyI, 9, .inl (nA cu))), (aCb, .inl (cyI, 9, .inl (nA cb))), (aSk, .inl (cyI, 9, .inl (nA sk))), (aW, .inr (6, [.ref aSh, .ref aN, .ref aO, .ref aFo, .ref aBa, .ref aRc, .int (bI gr)])), (aSh, .inl (cyI, 9, .inl (nA sh1_3))), (aFo, .inl (cyZ, 9, .inl (bA fo1_3))), (aBa, .inl (cyZ, 9, .inl (bA ba1_3))), (aRc, .inl (cyI, 7, .inl (nA rc)))]) (pc' := 57) C (c_X7_weight (b := 10) (k := t 1) (hk2 := by omega)) Y_X7_weight (ml_X7_205) [] [0, 1, 2, 3, 4, 5, 6, 7, 8, 9, 10, 11, 12, 13, 14, 15, 16] rfl rfl rfl rfl (by decide) dX7_odds_54 rfl rfl rfl (Nat.le_of_ble_eq_true rfl) ⟨Nat.le_of_ble_eq_true rfl, Nat.le_of_ble_eq_true rfl⟩ ⟨Nat.le_of_ble_eq_true rfl, Nat.le_of_ble_eq_true rfl⟩ ⟨rfl, rfl⟩ (fun r4 w1 hQ => ?_)
              obtain ⟨rfl, rfl⟩ := hQ
              refine j_perm [(a0, .inr (7, [.ref aR, .ref aN, .ref aO, .ref aH, .ref aE, .ref aW, .ref aK, .ref aIm, .ref aKp, .ref aMb])), (aN, .inr (1, [.int (nI (t 0)), .int (nI (t 1)), .int (nI (t 2)), .ref aKd, .ref aFi, .ref aSe, .ref aSb, .ref aLd])), (aKd, .inl (cyI, 9, .inl (nA kd))), (aFi, .inl (cyI, 9, .inl (nA fi))), (aSe, .inl (cyI, 9, .inl (nA se))), (aSb, .inl (cyI, 9, .inl (nA sb))), (aLd, .inl (cyI, 3, .inl (nA ld))), (aO, .inr (4, [.ref aWi, .ref aCu, .ref aCb, .ref aSk])), (aWi, .inl (cyI, 3, .inl (nA wi))), (aCu, .inl (cyI, 9, .inl (nA cu))), (aCb, .inl (cyI, 9, .inl (nA cb))), (aSk, .inl (cyI, 9, .inl (nA sk))), (aW, .inr (6, [.ref aSh, .ref aN, .ref aO, .ref aFo, .ref aBa, .ref aRc, .int (bI gr)])), (aSh, .inl (cyI, 9, .inl (nA sh1_3))), (aFo, .inl (cyZ, 9, .inl (bA fo1_3))), (aBa, .inl (cyZ, 9, .inl (bA ba1_3))), (aRc, .inl (cyI, 7, .inl (nA rc)))] [0, 1, 2, 3, 4, 5, 6, 7, 8, 9, 10, 11, 12, 13, 14, 15, 16] rfl rfl (by decide) ?_
              refine j_istore (pc' := 59) C [(5, .int (nI (10 ^ (t 1)))), (0, .ref a0), (1, .int (nI y)), (2, .int (nI j)), (3, .int (nI q)), (4, .int (nI p))] dX7_odds_57 rfl (by decide) rfl ?_
              refine j_iconst (v := (nI 0)) (pc' := 60) C dX7_odds_59 rfl (by decide +kernel) ?_
              refine j_istore (pc' := 62) C [(6, .int (nI 0)), (5, .int (nI (10 ^ (t 1)))), (0, .ref a0), (1, .int (nI y)), (2, .int (nI j)), (3, .int (nI q)), (4, .int (nI p))] dX7_odds_60 rfl (by decide) rfl ?_
              refine j_iconst (v := (nI 0)) (pc' := 63) C dX7_odds_62 rfl (by decide +kernel) ?_
              refine j_istore (pc' := 65) C [(7, .int (nI 0)), (6, .int (nI 0)), (5, .int (nI (10 ^ (t 1)))), (0, .ref a0), (1, .int (nI y)), (2, .int (nI j)), (3, .int (nI q)), (4, .int (nI p))] dX7_odds_63 rfl (by decide) rfl ?_
              refine j_lsub [(0, .ref a0), (1, .int (nI y)), (2, .int (nI j)), (3, .int (nI q)), (4, .int (nI p)), (5, .int (nI (10 ^ (t 1)))), (6, .int (nI 0)), (7, .int (nI 0))] [3, 4, 5, 6, 7, 2, 1, 0] rfl ?_
              refine j_loop4 (fun (i : Nat) (z : Nat) (rc2 : Nat → Nat) (g2 : Bool) => [(a0, .inr (7, [.ref aR, .ref aN, .ref aO, .ref aH, .ref aE, .ref aW, .ref aK, .ref aIm, .ref aKp, .ref aMb])), (aN, .inr (1, [.int (nI (t 0)), .int (nI (t 1)), .int (nI (t 2)), .ref aKd, .ref aFi, .ref aSe, .ref aSb, .ref aLd])), (aKd, .inl (cyI, 9, .inl (nA kd))), (aFi, .inl (cyI, 9, .inl (nA fi))), (aSe, .inl (cyI, 9, .inl (nA se))), (aSb, .inl (cyI, 9, .inl (nA sb))), (aLd, .inl (cyI, 3, .inl (nA ld))), (aO, .inr (4, [.ref aWi, .ref aCu, .ref aCb, .ref aSk])), (aWi, .inl (cyI, 3, .inl (nA wi))), (aCu, .inl (cyI, 9, .inl (nA cu))), (aCb, .inl (cyI, 9, .inl (nA cb))), (aSk, .inl (cyI, 9, .inl (nA sk))), (aW, .inr (6, [.ref aSh, .ref aN, .ref aO, .ref aFo, .ref aBa, .ref aRc, .int (bI g2)])), (aSh, .inl (cyI, 9, .inl (nA sh1_3))), (aFo, .inl (cyZ, 9, .inl (bA fo1_3))), (aBa, .inl (cyZ, 9, .inl (bA ba1_3))), (aRc, .inl (cyI, 7, .inl (nA rc2)))]) (fun (i : Nat) (z : Nat) (rc2 : Nat → Nat) (g2 : Bool) => [(0, .ref a0), (1, .int (nI y)), (2, .int (nI j)), (3, .int (nI q)), (4, .int (nI p)), (5, .int (nI (10 ^ (t 1)))), (6, .int (nI z)), (7, .int (nI i))]) (fun (i : Nat) (z : Nat) (rc2 : Nat → Nat) (g2 : Bool) => []) (fun (i : Nat) (z : Nat) (rc2 : Nat → Nat) (g2 : Bool) => i ≤ 2 ^ t 1 ∧ z = upN t s y j q i) (fun (i : Nat) (z : Nat) (rc2 : Nat → Nat) (g2 : Bool) => 2 ^ t 1 - i) ?_ 0 0 rc gr ?_
              · intro i z rc2 g2 hI65 ih65
                obtain ⟨hi, hz⟩ := hI65
                refine j_iload (pc' := 67) C dX7_odds_65 rfl 7 rfl ?_
                refine j_iconst (v := (nI 1)) (pc' := 68) C dX7_odds_67 rfl (by decide +kernel) ?_
                refine j_aload_n (pc' := 69) C dX7_odds_68 rfl 0 rfl ?_
                refine j_get (v := .ref aN) (pc' := 72) C KX7 0 1 rfl (by decide) fl_X7_19 rfl rfl dX7_odds_69 rfl ?_
                refine j_get (v := .int (nI (t 1))) (pc' := 75) C KX1 1 1 rfl (by decide) fl_X7_183 rfl rfl dX7_odds_72 rfl ?_
                refine j_ishl (v := (nI (2 ^ (t 1)))) (pc' := 76) C dX7_odds_75 rfl (sh_1 (by omega)) ?_
                refine j_nc_ge (pc' := 79) C 135 dX7_odds_76 (by decide) rfl (by omega) (by omega) (fun c76 => ?_) (fun c76 => ?_)
                · have hup : z < 2147483648 := by have := upN_10 (t := t) (s := s) (x := y) (l := j) (st := q) (i := i) (by omega) hi; rw [← hz] at this; omega
                  have hgp := Nat.gcd_pos_of_pos_right z ht0
                  have hgl := Nat.gcd_le_right z ht0
                  refine j_iload (pc' := 137) C dX7_odds_135 rfl 6 rfl ?_
                  refine j_iload (pc' := 139) C dX7_odds_137 rfl 5 rfl ?_
                  refine j_cSi (As := [.int (nI z), .int (nI (10 ^ (t 1)))]) (wr := [(a0, .inr (7, [.ref aR, .ref aN, .ref aO, .ref aH, .ref aE, .ref aW, .ref aK, .ref aIm, .ref aKp, .ref aMb])), (aN, .inr (1, [.int (nI (t 0)), .int (nI (t 1)), .int (nI (t 2)), .ref aKd, .ref aFi, .ref aSe, .ref aSb, .ref aLd])), (aKd, .inl (cyI, 9, .inl (nA kd))), (aFi, .inl (cyI, 9, .inl (nA fi))), (aSe, .inl (cyI, 9, .inl (nA se))), (aSb, .inl (cyI, 9, .inl (nA sb))), (aLd, .inl (cyI, 3, .inl (nA ld))), (aO, .inr (4, [.ref aWi, .ref aCu, .ref aCb, .ref aSk])), (aWi, .inl (cyI, 3, .inl (nA wi))), (aCu, .inl (cyI, 9, .inl (nA cu))), (aCb, .inl (cyI, 9, .inl (nA cb))), (aSk, .inl (cyI, 9, .inl (nA sk))), (aW, .inr (6, [.ref aSh, .ref aN, .ref aO, .ref aFo, .ref aBa, .ref aRc, .int (bI g2)])), (aSh, .inl (cyI, 9, .inl (nA sh1_3))), (aFo, .inl (cyZ, 9, .inl (bA fo1_3))), (aBa, .inl (cyZ, 9, .inl (bA ba1_3))), (aRc, .inl (cyI, 7, .inl (nA rc2)))]) (pc' := 142) C (c_X7_commonDivisor (u := z) (v := 10 ^ (t 1)) (hu := hup) (hv := by omega) (hv0 := ht0)) Y_X7_commonDivisor (ml_X7_209) [] [0, 1, 2, 3, 4, 5, 6, 7, 8, 9, 10, 11, 12, 13, 14, 15, 16] rfl rfl rfl rfl (by decide) dX7_odds_139 rfl rfl rfl (Nat.le_of_ble_eq_true rfl) ⟨Nat.le_of_ble_eq_true rfl, Nat.le_of_ble_eq_true rfl⟩ ⟨Nat.le_of_ble_eq_true rfl, Nat.le_of_ble_eq_true rfl⟩ ⟨rfl, rfl⟩ (fun r5 w1 hQ => ?_)
                  obtain ⟨rfl, rfl⟩ := hQ
                  refine j_perm [(a0, .inr (7, [.ref aR, .ref aN, .ref aO, .ref aH, .ref aE, .ref aW, .ref aK, .ref aIm, .ref aKp, .ref aMb])), (aN, .inr (1, [.int (nI (t 0)), .int (nI (t 1)), .int (nI (t 2)), .ref aKd, .ref aFi, .ref aSe, .ref aSb, .ref aLd])), (aKd, .inl (cyI, 9, .inl (nA kd))), (aFi, .inl (cyI, 9, .inl (nA fi))), (aSe, .inl (cyI, 9, .inl (nA se))), (aSb, .inl (cyI, 9, .inl (nA sb))), (aLd, .inl (cyI, 3, .inl (nA ld))), (aO, .inr (4, [.ref aWi, .ref aCu, .ref aCb, .ref aSk])), (aWi, .inl (cyI, 3, .inl (nA wi))), (aCu, .inl (cyI, 9, .inl (nA cu))), (aCb, .inl (cyI, 9, .inl (nA cb))), (aSk, .inl (cyI, 9, .inl (nA sk))), (aW, .inr (6, [.ref aSh, .ref aN, .ref aO, .ref aFo, .ref aBa, .ref aRc, .int (bI g2)])), (aSh, .inl (cyI, 9, .inl (nA sh1_3))), (aFo, .inl (cyZ, 9, .inl (bA fo1_3))), (aBa, .inl (cyZ, 9, .inl (bA ba1_3))), (aRc, .inl (cyI, 7, .inl (nA rc2)))] [0, 1, 2, 3, 4, 5, 6, 7, 8, 9, 10, 11, 12, 13, 14, 15, 16] rfl rfl (by decide) ?_
                  refine j_istore (pc' := 144) C [(7, .int (nI (Nat.gcd z (10 ^ (t 1))))), (0, .ref a0), (1, .int (nI y)), (2, .int (nI j)), (3, .int (nI q)), (4, .int (nI p)), (5, .int (nI (10 ^ (t 1)))), (6, .int (nI z))] dX7_odds_142 rfl (by decide) rfl ?_
                  refine j_iload (pc' := 146) C dX7_odds_144 rfl 5 rfl ?_
                  refine j_nz_ne (pc' := 149) C 154 dX7_odds_146 (by decide) rfl (by omega) (fun c146 => ?_) (fun c146 => ?_)
                  · refine j_iload (pc' := 156) C dX7_odds_154 rfl 6 rfl ?_
                    refine j_iload (pc' := 158) C dX7_odds_156 rfl 0 rfl ?_
                    refine j_idiv (v := (nI ((10 ^ (t 1)) / (Nat.gcd z (10 ^ (t 1)))))) (pc' := 159) C dX7_odds_158 rfl (nI_ne0 hgp (by omega)) (pk_div (by omega) (by omega) (by omega)) ?_
                    exact j_iret C hr hk hA dX7_odds_159 (rfl) (⟨_, _, _, _, _, rfl, by unfold odQ; rw [if_neg (by rw [hin0, hin, hin2, hin3]; decide), nI_clamp (by omega), nI_clamp (by omega), nI_clamp (by omega)]; rw [if_neg (by rw [nI_eq (by omega) (by decide)]; omega), hz, show i = 2 ^ t 1 by omega]⟩)
                  · refine j_iload (pc' := 151) C dX7_odds_149 rfl 7 rfl ?_
                    refine j_goto C 156 dX7_odds_151 (by decide) ?_
                    refine j_iload (pc' := 158) C dX7_odds_156 rfl 0 rfl ?_
                    refine j_idiv (v := (nI (z / (Nat.gcd z (10 ^ (t 1)))))) (pc' := 159) C dX7_odds_158 rfl (nI_ne0 hgp (by omega)) (pk_div (by omega) (by omega) (by omega)) ?_
                    exact j_iret C hr hk hA dX7_odds_159 (rfl) (⟨_, _, _, _, _, rfl, by unfold odQ; rw [if_neg (by rw [hin0, hin, hin2, hin3]; decide), nI_clamp (by omega), nI_clamp (by omega), nI_clamp (by omega)]; rw [if_pos (by rw [c146]), hz, show i = 2 ^ t 1 by omega]⟩)
                · have hpc := pc_n (t 1) (by omega) i c76
                  refine j_aload_n (pc' := 80) C dX7_odds_79 rfl 0 rfl ?_
                  refine j_get (v := .ref aW) (pc' := 83) C KX7 0 5 rfl (by decide) fl_X7_49 rfl rfl dX7_odds_80 rfl ?_
                  refine j_iload (pc' := 85) C dX7_odds_83 rfl 7 rfl ?_
                  refine j_iload_n (pc' := 86) C dX7_odds_85 rfl 2 rfl ?_
                  refine j_iload_n (pc' := 87) C dX7_odds_86 rfl 3 rfl ?_
                  refine j_cVi (As := [.int (nI i), .int (nI j), .int (nI q)]) (wr := [(a0, .inr (7, [.ref aR, .ref aN, .ref aO, .ref aH, .ref aE, .ref aW, .ref aK, .ref aIm, .ref aKp, .ref aMb])), (aKd, .inl (cyI, 9, .inl (nA kd))), (aSb, .inl (cyI, 9, .inl (nA sb))), (aO, .inr (4, [.ref aWi, .ref aCu, .ref aCb, .ref aSk])), (aWi, .inl (cyI, 3, .inl (nA wi))), (aCu, .inl (cyI, 9, .inl (nA cu))), (aCb, .inl (cyI, 9, .inl (nA cb))), (aSk, .inl (cyI, 9, .inl (nA sk)))]) (pc' := 90) C (c_X6_feedsWithout (aW := aW) (aSh := aSh) (aN := aN) (aO := aO) (aFo := aFo) (aBa := aBa) (aRc := aRc) (gr := g2) (sh := sh1_3) (fo := fo1_3) (ba := ba1_3) (rc := rc2) (t := t) (aKd := aKd) (aFi := aFi) (aSe := aSe) (aSb := aSb) (aLd := aLd) (fi := fi) (se := se) (ld := ld) (s := s) (wo := i) (l := j) (st := q) (hT := by first | assumption | omega) (hfi := by first | assumption | omega) (hse := by first | assumption | omega) (hld := by first | assumption | omega) (hL := hF42) (hwo := by omega) (hl := hj) (hst := hq)) Y_X6_feedsWithout (ml_X7_191) [12, 13, 14, 15, 16, 1, 3, 4, 6] [0, 2, 5, 7, 8, 9, 10, 11] rfl rfl rfl rfl (by decide) rfl rfl rfl dX7_odds_87 rfl rfl rfl (Nat.le_of_ble_eq_true rfl) ⟨Nat.le_of_ble_eq_true rfl, Nat.le_of_ble_eq_true rfl⟩ ⟨Nat.le_of_ble_eq_true rfl, Nat.le_of_ble_eq_true rfl⟩ ⟨rfl, rfl⟩ (fun r6 w1 hQ => ?_)
                  obtain ⟨rc1_6, g1_6, rfl, rfl⟩ := hQ
                  refine j_perm [(a0, .inr (7, [.ref aR, .ref aN, .ref aO, .ref aH, .ref aE, .ref aW, .ref aK, .ref aIm, .ref aKp, .ref aMb])), (aN, .inr (1, [.int (nI (t 0)), .int (nI (t 1)), .int (nI (t 2)), .ref aKd, .ref aFi, .ref aSe, .ref aSb, .ref aLd])), (aKd, .inl (cyI, 9, .inl (nA kd))), (aFi, .inl (cyI, 9, .inl (nA fi))), (aSe, .inl (cyI, 9, .inl (nA se))), (aSb, .inl (cyI, 9, .inl (nA sb))), (aLd, .inl (cyI, 3, .inl (nA ld))), (aO, .inr (4, [.ref aWi, .ref aCu, .ref aCb, .ref aSk])), (aWi, .inl (cyI, 3, .inl (nA wi))), (aCu, .inl (cyI, 9, .inl (nA cu))), (aCb, .inl (cyI, 9, .inl (nA cb))), (aSk, .inl (cyI, 9, .inl (nA sk))), (aW, .inr (6, [.ref aSh, .ref aN, .ref aO, .ref aFo, .ref aBa, .ref aRc, .int (bI g1_6)])), (aSh, .inl (cyI, 9, .inl (nA sh1_3))), (aFo, .inl (cyZ, 9, .inl (bA fo1_3))), (aBa, .inl (cyZ, 9, .inl (bA ba1_3))), (aRc, .inl (cyI, 7, .inl (nA rc1_6)))] [0, 13, 1, 14, 15, 2, 16, 3, 4, 5, 6, 7, 8, 9, 10, 11, 12] rfl rfl (by decide) ?_
                  refine j_b_eq (pc' := 93) C 129 dX7_odds_90 (by decide) rfl (fun c90 => ?_) (fun c90 => ?_)
                  · refine j_iinc (v := (nI (i + 1))) (pc' := 132) C [(7, .int (nI (i + 1))), (0, .ref a0), (1, .int (nI y)), (2, .int (nI j)), (3, .int (nI q)), (4, .int (nI p)), (5, .int (nI (10 ^ (t 1)))), (6, .int (nI z))] dX7_odds_129 rfl 7 rfl (inc_n i 1) (by decide) rfl ?_
                    refine j_goto C 65 dX7_odds_132 (by decide) ?_
                    refine j_lsub [(0, .ref a0), (1, .int (nI y)), (2, .int (nI j)), (3, .int (nI q)), (4, .int (nI p)), (5, .int (nI (10 ^ (t 1)))), (6, .int (nI z)), (7, .int (nI (i + 1)))] [1, 2, 3, 4, 5, 6, 7, 0] rfl ?_
                    exact ih65 (i + 1) z rc1_6 g1_6 (⟨by omega, by rw [hz, upN, c90, if_neg (by decide), Nat.add_zero]⟩) (by omega)
                  · refine j_iload (pc' := 95) C dX7_odds_93 rfl 7 rfl ?_
                    refine j_cSi (As := [.int (nI i)]) (wr := [(a0, .inr (7, [.ref aR, .ref aN, .ref aO, .ref aH, .ref aE, .ref aW, .ref aK, .ref aIm, .ref aKp, .ref aMb])), (aN, .inr (1, [.int (nI (t 0)), .int (nI (t 1)), .int (nI (t 2)), .ref aKd, .ref aFi, .ref aSe, .ref aSb, .ref aLd])), (aKd, .inl (cyI, 9, .inl (nA kd))), (aFi, .inl (cyI, 9, .inl (nA fi))), (aSe, .inl (cyI, 9, .inl (nA se))), (aSb, .inl (cyI, 9, .inl (nA sb))), (aLd, .inl (cyI, 3, .inl (nA ld))), (aO, .inr (4, [.ref aWi, .ref aCu, .ref aCb, .ref aSk])), (aWi, .inl (cyI, 3, .inl (nA wi))), (aCu, .inl (cyI, 9, .inl (nA cu))), (aCb, .inl (cyI, 9, .inl (nA cb))), (aSk, .inl (cyI, 9, .inl (nA sk))), (aW, .inr (6, [.ref aSh, .ref aN, .ref aO, .ref aFo, .ref aBa, .ref aRc, .int (bI g1_6)])), (aSh, .inl (cyI, 9, .inl (nA sh1_3))), (aFo, .inl (cyZ, 9, .inl (bA fo1_3))), (aBa, .inl (cyZ, 9, .inl (bA ba1_3))), (aRc, .inl (cyI, 7, .inl (nA rc1_6)))]) (pc' := 98) C (c_J6_bitCount (v := i) (hv := by omega)) Y_J6_bitCount_0f7a4 (ml_X7_186) [] [0, 1, 2, 3, 4, 5, 6, 7, 8, 9, 10, 11, 12, 13, 14, 15, 16] rfl rfl rfl rfl (by decide) dX7_odds_95 rfl rfl rfl (Nat.le_of_ble_eq_true rfl) ⟨Nat.le_of_ble_eq_true rfl, Nat.le_of_ble_eq_true rfl⟩ ⟨Nat.le_of_ble_eq_true rfl, Nat.le_of_ble_eq_true rfl⟩ ⟨rfl, rfl⟩ (fun r7 w1 hQ => ?_)
                    obtain ⟨rfl, rfl⟩ := hQ
                    refine j_perm [(a0, .inr (7, [.ref aR, .ref aN, .ref aO, .ref aH, .ref aE, .ref aW, .ref aK, .ref aIm, .ref aKp, .ref aMb])), (aN, .inr (1, [.int (nI (t 0)), .int (nI (t 1)), .int (nI (t 2)), .ref aKd, .ref aFi, .ref aSe, .ref aSb, .ref aLd])), (aKd, .inl (cyI, 9, .inl (nA kd))), (aFi, .inl (cyI, 9, .inl (nA fi))), (aSe, .inl (cyI, 9, .inl (nA se))), (aSb, .inl (cyI, 9, .inl (nA sb))), (aLd, .inl (cyI, 3, .inl (nA ld))), (aO, .inr (4, [.ref aWi, .ref aCu, .ref aCb, .ref aSk])), (aWi, .inl (cyI, 3, .inl (nA wi))), (aCu, .inl (cyI, 9, .inl (nA cu))), (aCb, .inl (cyI, 9, .inl (nA cb))), (aSk, .inl (cyI, 9, .inl (nA sk))), (aW, .inr (6, [.ref aSh, .ref aN, .ref aO, .ref aFo, .ref aBa, .ref aRc, .int (bI g1_6)])), (aSh, .inl (cyI, 9, .inl (nA sh1_3))), (aFo, .inl (cyZ, 9, .inl (bA fo1_3))), (aBa, .inl (cyZ, 9, .inl (bA ba1_3))), (aRc, .inl (cyI, 7, .inl (nA rc1_6)))] [0, 1, 2, 3, 4, 5, 6, 7, 8, 9, 10, 11, 12, 13, 14, 15, 16] rfl rfl (by decide) ?_
                    refine j_istore (pc' := 100) C [(8, .int (nI (pcN i))), (0, .ref a0), (1, .int (nI y)), (2, .int (nI j)), (3, .int (nI q)), (4, .int (nI p)), (5, .int (nI (10 ^ (t 1)))), (6, .int (nI z)), (7, .int (nI i))] dX7_odds_98 rfl (by decide) rfl ?_
                    refine j_iload (pc' := 102) C dX7_odds_100 rfl 7 rfl ?_
                    refine j_iload_n (pc' := 103) C dX7_odds_102 rfl 2 rfl ?_
                    refine j_iload (pc' := 105) C dX7_odds_103 rfl 0 rfl ?_
                    refine j_cSi (As := [.int (nI y), .int (nI (pcN i))]) (wr := [(a0, .inr (7, [.ref aR, .ref aN, .ref aO, .ref aH, .ref aE, .ref aW, .ref aK, .ref aIm, .ref aKp, .ref aMb])), (aN, .inr (1, [.int (nI (t 0)), .int (nI (t 1)), .int (nI (t 2)), .ref aKd, .ref aFi, .ref aSe, .ref aSb, .ref aLd])), (aKd, .inl (cyI, 9, .inl (nA kd))), (aFi, .inl (cyI, 9, .inl (nA fi))), (aSe, .inl (cyI, 9, .inl (nA se))), (aSb, .inl (cyI, 9, .inl (nA sb))), (aLd, .inl (cyI, 3, .inl (nA ld))), (aO, .inr (4, [.ref aWi, .ref aCu, .ref aCb, .ref aSk])), (aWi, .inl (cyI, 3, .inl (nA wi))), (aCu, .inl (cyI, 9, .inl (nA cu))), (aCb, .inl (cyI, 9, .inl (nA cb))), (aSk, .inl (cyI, 9, .inl (nA sk))), (aW, .inr (6, [.ref aSh, .ref aN, .ref aO, .ref aFo, .ref aBa, .ref aRc, .int (bI g1_6)])), (aSh, .inl (cyI, 9, .inl (nA sh1_3))), (aFo, .inl (cyZ, 9, .inl (bA fo1_3))), (aBa, .inl (cyZ, 9, .inl (bA ba1_3))), (aRc, .inl (cyI, 7, .inl (nA rc1_6)))]) (pc' := 108) C (c_X7_weight (b := y) (k := pcN i) (hk2 := by omega)) Y_X7_weight (ml_X7_205) [] [0, 1, 2, 3, 4, 5, 6, 7, 8, 9, 10, 11, 12, 13, 14, 15, 16] rfl rfl rfl rfl (by decide) dX7_odds_105 rfl rfl rfl (Nat.le_of_ble_eq_true rfl) ⟨Nat.le_of_ble_eq_true rfl, Nat.le_of_ble_eq_true rfl⟩ ⟨Nat.le_of_ble_eq_true rfl, Nat.le_of_ble_eq_true rfl⟩ ⟨rfl, rfl⟩ (fun r8 w1 hQ => ?_)
                    obtain ⟨rfl, rfl⟩ := hQ
                    refine j_perm [(a0, .inr (7, [.ref aR, .ref aN, .ref aO, .ref aH, .ref aE, .ref aW, .ref aK, .ref aIm, .ref aKp, .ref aMb])), (aN, .inr (1, [.int (nI (t 0)), .int (nI (t 1)), .int (nI (t 2)), .ref aKd, .ref aFi, .ref aSe, .ref aSb, .ref aLd])), (aKd, .inl (cyI, 9, .inl (nA kd))), (aFi, .inl (cyI, 9, .inl (nA fi))), (aSe, .inl (cyI, 9, .inl (nA se))), (aSb, .inl (cyI, 9, .inl (nA sb))), (aLd, .inl (cyI, 3, .inl (nA ld))), (aO, .inr (4, [.ref aWi, .ref aCu, .ref aCb, .ref aSk])), (aWi, .inl (cyI, 3, .inl (nA wi))), (aCu, .inl (cyI, 9, .inl (nA cu))), (aCb, .inl (cyI, 9, .inl (nA cb))), (aSk, .inl (cyI, 9, .inl (nA sk))), (aW, .inr (6, [.ref aSh, .ref aN, .ref aO, .ref aFo, .ref aBa, .ref aRc, .int (bI g1_6)])), (aSh, .inl (cyI, 9, .inl (nA sh1_3))), (aFo, .inl (cyZ, 9, .inl (bA fo1_3))), (aBa, .inl (cyZ, 9, .inl (bA ba1_3))), (aRc, .inl (cyI, 7, .inl (nA rc1_6)))] [0, 1, 2, 3, 4, 5, 6, 7, 8, 9, 10, 11, 12, 13, 14, 15, 16] rfl rfl (by decide) ?_
                    refine j_bipush (v := (nI 10)) (pc' := 110) C dX7_odds_108 rfl (by decide +kernel) ?_
                    refine j_iload_n (pc' := 111) C dX7_odds_110 rfl 2 rfl ?_
                    refine j_isub (v := (nI (10 - y))) (pc' := 112) C dX7_odds_111 rfl (pk_sub (by omega)) ?_
                    refine j_aload_n (pc' := 113) C dX7_odds_112 rfl 1 rfl ?_
                    refine j_get (v := .ref aN) (pc' := 116) C KX7 0 1 rfl (by decide) fl_X7_19 rfl rfl dX7_odds_113 rfl ?_
                    refine j_get (v := .int (nI (t 1))) (pc' := 119) C KX1 1 1 rfl (by decide) fl_X7_183 rfl rfl dX7_odds_116 rfl ?_
                    refine j_iload (pc' := 121) C dX7_odds_119 rfl 0 rfl ?_
                    refine j_isub (v := (nI ((t 1) - (pcN i)))) (pc' := 122) C dX7_odds_121 rfl (pk_sub (hpc)) ?_
                    refine j_cSi (As := [.int (nI (10 - y)), .int (nI ((t 1) - (pcN i)))]) (wr := [(a0, .inr (7, [.ref aR, .ref aN, .ref aO, .ref aH, .ref aE, .ref aW, .ref aK, .ref aIm, .ref aKp, .ref aMb])), (aN, .inr (1, [.int (nI (t 0)), .int (nI (t 1)), .int (nI (t 2)), .ref aKd, .ref aFi, .ref aSe, .ref aSb, .ref aLd])), (aKd, .inl (cyI, 9, .inl (nA kd))), (aFi, .inl (cyI, 9, .inl (nA fi))), (aSe, .inl (cyI, 9, .inl (nA se))), (aSb, .inl (cyI, 9, .inl (nA sb))), (aLd, .inl (cyI, 3, .inl (nA ld))), (aO, .inr (4, [.ref aWi, .ref aCu, .ref aCb, .ref aSk])), (aWi, .inl (cyI, 3, .inl (nA wi))), (aCu, .inl (cyI, 9, .inl (nA cu))), (aCb, .inl (cyI, 9, .inl (nA cb))), (aSk, .inl (cyI, 9, .inl (nA sk))), (aW, .inr (6, [.ref aSh, .ref aN, .ref aO, .ref aFo, .ref aBa, .ref aRc, .int (bI g1_6)])), (aSh, .inl (cyI, 9, .inl (nA sh1_3))), (aFo, .inl (cyZ, 9, .inl (bA fo1_3))), (aBa, .inl (cyZ, 9, .inl (bA ba1_3))), (aRc, .inl (cyI, 7, .inl (nA rc1_6)))]) (pc' := 125) C (c_X7_weight (b := 10 - y) (k := (t 1) - (pcN i)) (hk2 := by omega)) Y_X7_weight (ml_X7_205) [] [0, 1, 2, 3, 4, 5, 6, 7, 8, 9, 10, 11, 12, 13, 14, 15, 16] rfl rfl rfl rfl (by decide) dX7_odds_122 rfl rfl rfl (Nat.le_of_ble_eq_true rfl) ⟨Nat.le_of_ble_eq_true rfl, Nat.le_of_ble_eq_true rfl⟩ ⟨Nat.le_of_ble_eq_true rfl, Nat.le_of_ble_eq_true rfl⟩ ⟨rfl, rfl⟩ (fun r9 w1 hQ => ?_)
                    obtain ⟨rfl, rfl⟩ := hQ
                    refine j_perm [(a0, .inr (7, [.ref aR, .ref aN, .ref aO, .ref aH, .ref aE, .ref aW, .ref aK, .ref aIm, .ref aKp, .ref aMb])), (aN, .inr (1, [.int (nI (t 0)), .int (nI (t 1)), .int (nI (t 2)), .ref aKd, .ref aFi, .ref aSe, .ref aSb, .ref aLd])), (aKd, .inl (cyI, 9, .inl (nA kd))), (aFi, .inl (cyI, 9, .inl (nA fi))), (aSe, .inl (cyI, 9, .inl (nA se))), (aSb, .inl (cyI, 9, .inl (nA sb))), (aLd, .inl (cyI, 3, .inl (nA ld))), (aO, .inr (4, [.ref aWi, .ref aCu, .ref aCb, .ref aSk])), (aWi, .inl (cyI, 3, .inl (nA wi))), (aCu, .inl (cyI, 9, .inl (nA cu))), (aCb, .inl (cyI, 9, .inl (nA cb))), (aSk, .inl (cyI, 9, .inl (nA sk))), (aW, .inr (6, [.ref aSh, .ref aN, .ref aO, .ref aFo, .ref aBa, .ref aRc, .int (bI g1_6)])), (aSh, .inl (cyI, 9, .inl (nA sh1_3))), (aFo, .inl (cyZ, 9, .inl (bA fo1_3))), (aBa, .inl (cyZ, 9, .inl (bA ba1_3))), (aRc, .inl (cyI, 7, .inl (nA rc1_6)))] [0, 1, 2, 3, 4, 5, 6, 7, 8, 9, 10, 11, 12, 13, 14, 15, 16] rfl rfl (by decide) ?_
                    refine j_imul (v := (nI ((y ^ (pcN i)) * ((10 - y) ^ ((t 1) - (pcN i)))))) (pc' := 126) C dX7_odds_125 rfl (pk_mul (y ^ (pcN i)) ((10 - y) ^ ((t 1) - (pcN i)))) ?_
                    refine j_iadd (v := (nI (z + ((y ^ (pcN i)) * ((10 - y) ^ ((t 1) - (pcN i))))))) (pc' := 127) C dX7_odds_126 rfl (nI_add z ((y ^ (pcN i)) * ((10 - y) ^ ((t 1) - (pcN i))))) ?_
                    refine j_istore (pc' := 129) C [(6, .int (nI (z + ((y ^ (pcN i)) * ((10 - y) ^ ((t 1) - (pcN i))))))), (8, .int (nI (pcN i))), (0, .ref a0), (1, .int (nI y)), (2, .int (nI j)), (3, .int (nI q)), (4, .int (nI p)), (5, .int (nI (10 ^ (t 1)))), (7, .int (nI i))] dX7_odds_127 rfl (by decide) rfl ?_
                    refine j_iinc (v := (nI (i + 1))) (pc' := 132) C [(7, .int (nI (i + 1))), (6, .int (nI (z + ((y ^ (pcN i)) * ((10 - y) ^ ((t 1) - (pcN i))))))), (8, .int (nI (pcN i))), (0, .ref a0), (1, .int (nI y)), (2, .int (nI j)), (3, .int (nI q)), (4, .int (nI p)), (5, .int (nI (10 ^ (t 1))))] dX7_odds_129 rfl 8 rfl (inc_n i 1) (by decide) rfl ?_
                    refine j_goto C 65 dX7_odds_132 (by decide) ?_
                    refine j_lsub [(0, .ref a0), (1, .int (nI y)), (2, .int (nI j)), (3, .int (nI q)), (4, .int (nI p)), (5, .int (nI (10 ^ (t 1)))), (6, .int (nI (z + ((y ^ (pcN i)) * ((10 - y) ^ ((t 1) - (pcN i))))))), (7, .int (nI (i + 1)))] [3, 4, 5, 6, 7, 8, 1, 0] rfl ?_
                    exact ih65 (i + 1) (z + ((y ^ (pcN i)) * ((10 - y) ^ ((t 1) - (pcN i))))) rc1_6 g1_6 (⟨by omega, by rw [hz, upN, c90, if_pos rfl, ptN_w (by omega) c76]⟩) (by omega)
              · exact ⟨Nat.zero_le _, rfl⟩
            · refine j_iconst (v := (-1)) (pc' := 37) C dX7_odds_36 rfl (by decide +kernel) ?_
              exact j_iret C hr hk hA dX7_odds_37 (rfl) (⟨_, _, _, _, _, rfl, by unfold odQ; rw [if_pos (by rw [in_hi2 (a := 1) (by decide) c33, Bool.and_false])]⟩)

theorem eO_s {k b : Nat} : eO k (b + 1) = eO k b + 1 := by
  unfold eO
  split <;> omega

set_option maxHeartbeats 4000000 in
set_option maxRecDepth 100000 in
theorem c_X7_enough {lch : Launch} {dG : va_G} {cyI cyZ cyO : ClassId} (a0 : Nat) (aR : Nat) (aN : Nat) (aO : Nat) (aH : Nat) (aE : Nat) (aW : Nat) (aK : Nat) (aIm : Nat) (aKp : Nat) (aMb : Nat) (t : Nat → Nat) (aKd : Nat) (aFi : Nat) (aSe : Nat) (aSb : Nat) (aLd : Nat) (kd : Nat → Nat) (fi : Nat → Nat) (se : Nat → Nat) (sb : Nat → Nat) (ld : Nat → Nat) (aWi : Nat) (aCu : Nat) (aCb : Nat) (aSk : Nat) (wi : Nat → Nat) (cu : Nat → Nat) (cb : Nat → Nat) (sk : Nat → Nat) (aSh : Nat) (aFo : Nat) (aBa : Nat) (aRc : Nat) (gr : Bool) (sh : Nat → Nat) (fo : Nat → Bool) (ba : Nat → Bool) (rc : Nat → Nat) (mb : Nat → Nat) (s : Nat → Nat) (v : Int32) (hT : WT t) (hS : WS s) (hN : RN t kd fi se sb ld) (hR : RS s wi cu cb sk) : Ki lch yX7_enough cX7_enough 7 .int (rmk 5) dG (cyI, cyZ, cyO) [.ref a0, .int v] [(a0, .inr (7, [.ref aR, .ref aN, .ref aO, .ref aH, .ref aE, .ref aW, .ref aK, .ref aIm, .ref aKp, .ref aMb])), (aN, .inr (1, [.int (nI (t 0)), .int (nI (t 1)), .int (nI (t 2)), .ref aKd, .ref aFi, .ref aSe, .ref aSb, .ref aLd])), (aKd, .inl (cyI, 9, .inl (nA kd))), (aFi, .inl (cyI, 9, .inl (nA fi))), (aSe, .inl (cyI, 9, .inl (nA se))), (aSb, .inl (cyI, 9, .inl (nA sb))), (aLd, .inl (cyI, 3, .inl (nA ld))), (aO, .inr (4, [.ref aWi, .ref aCu, .ref aCb, .ref aSk])), (aWi, .inl (cyI, 3, .inl (nA wi))), (aCu, .inl (cyI, 9, .inl (nA cu))), (aCb, .inl (cyI, 9, .inl (nA cb))), (aSk, .inl (cyI, 9, .inl (nA sk))), (aW, .inr (6, [.ref aSh, .ref aN, .ref aO, .ref aFo, .ref aBa, .ref aRc, .int (bI gr)])), (aSh, .inl (cyI, 9, .inl (nA sh))), (aFo, .inl (cyZ, 9, .inl (bA fo))), (aBa, .inl (cyZ, 9, .inl (bA ba))), (aRc, .inl (cyI, 7, .inl (nA rc))), (aMb, .inl (cyI, 3, .inl (nA mb)))] (fun r w1 => ∃ (sh1 : Nat → Nat), ∃ (fo1 : Nat → Bool), ∃ (ba1 : Nat → Bool), ∃ (rc1 : Nat → Nat), ∃ (g1 : Bool), ∃ (mb1 : Nat → Nat), w1 = [(a0, .inr (7, [.ref aR, .ref aN, .ref aO, .ref aH, .ref aE, .ref aW, .ref aK, .ref aIm, .ref aKp, .ref aMb])), (aN, .inr (1, [.int (nI (t 0)), .int (nI (t 1)), .int (nI (t 2)), .ref aKd, .ref aFi, .ref aSe, .ref aSb, .ref aLd])), (aKd, .inl (cyI, 9, .inl (nA kd))), (aFi, .inl (cyI, 9, .inl (nA fi))), (aSe, .inl (cyI, 9, .inl (nA se))), (aSb, .inl (cyI, 9, .inl (nA sb))), (aLd, .inl (cyI, 3, .inl (nA ld))), (aO, .inr (4, [.ref aWi, .ref aCu, .ref aCb, .ref aSk])), (aWi, .inl (cyI, 3, .inl (nA wi))), (aCu, .inl (cyI, 9, .inl (nA cu))), (aCb, .inl (cyI, 9, .inl (nA cb))), (aSk, .inl (cyI, 9, .inl (nA sk))), (aW, .inr (6, [.ref aSh, .ref aN, .ref aO, .ref aFo, .ref aBa, .ref aRc, .int (bI g1)])), (aSh, .inl (cyI, 9, .inl (nA sh1))), (aFo, .inl (cyZ, 9, .inl (bA fo1))), (aBa, .inl (cyZ, 9, .inl (bA ba1))), (aRc, .inl (cyI, 7, .inl (nA rc1))), (aMb, .inl (cyI, 3, .inl (nA mb1)))] ∧ r = enQ t s v) := by
  have h1 := hT.n
  have hkd : ∀ c, c < t 1 → kd c = t (3 + c) := fun c hc => (hN.1 c hc).1
  have hfi : ∀ c, c < t 1 → fi c = t (12 + c) := fun c hc => (hN.1 c hc).2.1
  have hse : ∀ c, c < t 1 → se c = t (21 + c) := fun c hc => (hN.1 c hc).2.2.1
  have hsb : ∀ c, c < t 1 → sb c = t (30 + c) := fun c hc => (hN.1 c hc).2.2.2
  have hld : ∀ l, l < t 2 → ld l = t (39 + l) := hN.2
  have hwi : ∀ l, l < 3 → wi l = s l := hR.1
  have hcu : ∀ c, c < 9 → cu c = s (3 + c) := fun c hc => (hR.2 c hc).1
  have hcb : ∀ c, c < 9 → cb c = s (12 + c) := fun c hc => (hR.2 c hc).2.1
  have hsk : ∀ c, c < 9 → sk c = s (21 + c) := fun c hc => (hR.2 c hc).2.2
  refine Ki.of (own := RX7) rfl (by decide) (Nat.le_of_ble_eq_true rfl) (fun p0 e0 s0 m0 ar0 be0 me0 cd0 A0 C hr hk hnm hA => ?_)
  refine j_lsub [(0, .ref a0), (1, .int v)] [0, 1] rfl ?_
  refine j_iload_n (pc' := 1) C dX7_enough_0 rfl 1 rfl ?_
  refine j_if_lt (pc' := 4) C 9 dX7_enough_1 (by decide) rfl (fun c1 => ?_) (fun c1 => ?_)
  · refine j_iconst (v := (-1)) (pc' := 10) C dX7_enough_9 rfl (by decide +kernel) ?_
    exact j_iret C hr hk hA dX7_enough_10 (rfl) (⟨_, _, _, _, _, _, rfl, by unfold enQ; rw [if_pos (in_lo c1)]⟩)
  · refine j_iload_n (pc' := 5) C dX7_enough_4 rfl 1 rfl ?_
    refine j_iconst (v := (nI 1)) (pc' := 6) C dX7_enough_5 rfl (by decide +kernel) ?_
    refine j_ic_le (pc' := 9) C 11 dX7_enough_6 (by decide) rfl (fun c6 => ?_) (fun c6 => ?_)
    · obtain ⟨j, hj, rfl⟩ := inR_t (in_ok2 (a := 1) (by decide) c1 c6) (by decide)
      have hin := inR_n (j := j) (n := 2) hj (by decide)
      refine j_aload_n (pc' := 12) C dX7_enough_11 rfl 0 rfl ?_
      refine j_cVv (As := []) (wr := []) (pc' := 15) C (c_X7_noteMissing (a0 := a0) (aR := aR) (aN := aN) (aO := aO) (aH := aH) (aE := aE) (aW := aW) (aK := aK) (aIm := aIm) (aKp := aKp) (aMb := aMb) (t := t) (aKd := aKd) (aFi := aFi) (aSe := aSe) (aSb := aSb) (aLd := aLd) (kd := kd) (fi := fi) (se := se) (sb := sb) (ld := ld) (aWi := aWi) (aCu := aCu) (aCb := aCb) (aSk := aSk) (wi := wi) (cu := cu) (cb := cb) (sk := sk) (aSh := aSh) (aFo := aFo) (aBa := aBa) (aRc := aRc) (gr := gr) (sh := sh) (fo := fo) (ba := ba) (rc := rc) (mb := mb) (s := s) (hT := by first | assumption | omega) (hS := by first | assumption | omega) (hN := by first | assumption | omega) (hR := by first | assumption | omega)) Y_X7_noteMissing (ml_X7_195) [0, 1, 2, 3, 4, 5, 6, 7, 8, 9, 10, 11, 12, 13, 14, 15, 16, 17] [] rfl rfl rfl rfl (by decide) rfl rfl rfl dX7_enough_12 rfl rfl rfl (Nat.le_of_ble_eq_true rfl) ⟨Nat.le_of_ble_eq_true rfl, Nat.le_of_ble_eq_true rfl⟩ ⟨Nat.le_of_ble_eq_true rfl, Nat.le_of_ble_eq_true rfl⟩ ⟨rfl, rfl⟩ (fun w1 hQ => ?_)
      obtain ⟨sh1_1, fo1_1, ba1_1, rc1_1, g1_1, mb1_1, rfl, hF12⟩ := hQ
      refine j_iconst (v := (nI 0)) (pc' := 16) C dX7_enough_15 rfl (by decide +kernel) ?_
      refine j_istore_n (pc' := 17) C [(2, .int (nI 0)), (0, .ref a0), (1, .int (nI j))] dX7_enough_16 rfl (by decide) rfl ?_
      refine j_bipush (v := (-9)) (pc' := 19) C dX7_enough_17 rfl (by decide +kernel) ?_
      refine j_istore_n (pc' := 20) C [(3, .int (-9)), (2, .int (nI 0)), (0, .ref a0), (1, .int (nI j))] dX7_enough_19 rfl (by decide) rfl ?_
      refine j_iconst (v := (nI 0)) (pc' := 21) C dX7_enough_20 rfl (by decide +kernel) ?_
      refine j_istore (pc' := 23) C [(4, .int (nI 0)), (3, .int (-9)), (2, .int (nI 0)), (0, .ref a0), (1, .int (nI j))] dX7_enough_21 rfl (by decide) rfl ?_
      refine j_lsub [(0, .ref a0), (1, .int (nI j)), (2, .int (nI 0)), (3, .int (-9)), (4, .int (nI 0))] [3, 4, 2, 1, 0] rfl ?_
      refine j_loop8 (fun (c : Nat) (z : Nat) (fs : Int32) (sh2 : Nat → Nat) (fo2 : Nat → Bool) (ba2 : Nat → Bool) (rc2 : Nat → Nat) (g2 : Bool) => [(a0, .inr (7, [.ref aR, .ref aN, .ref aO, .ref aH, .ref aE, .ref aW, .ref aK, .ref aIm, .ref aKp, .ref aMb])), (aN, .inr (1, [.int (nI (t 0)), .int (nI (t 1)), .int (nI (t 2)), .ref aKd, .ref aFi, .ref aSe, .ref aSb, .ref aLd])), (aKd, .inl (cyI, 9, .inl (nA kd))), (aFi, .inl (cyI, 9, .inl (nA fi))), (aSe, .inl (cyI, 9, .inl (nA se))), (aSb, .inl (cyI, 9, .inl (nA sb))), (aLd, .inl (cyI, 3, .inl (nA ld))), (aO, .inr (4, [.ref aWi, .ref aCu, .ref aCb, .ref aSk])), (aWi, .inl (cyI, 3, .inl (nA wi))), (aCu, .inl (cyI, 9, .inl (nA cu))), (aCb, .inl (cyI, 9, .inl (nA cb))), (aSk, .inl (cyI, 9, .inl (nA sk))), (aW, .inr (6, [.ref aSh, .ref aN, .ref aO, .ref aFo, .ref aBa, .ref aRc, .int (bI g2)])), (aSh, .inl (cyI, 9, .inl (nA sh2))), (aFo, .inl (cyZ, 9, .inl (bA fo2))), (aBa, .inl (cyZ, 9, .inl (bA ba2))), (aRc, .inl (cyI, 7, .inl (nA rc2))), (aMb, .inl (cyI, 3, .inl (nA mb1_1)))]) (fun (c : Nat) (z : Nat) (fs : Int32) (sh2 : Nat → Nat) (fo2 : Nat → Bool) (ba2 : Nat → Bool) (rc2 : Nat → Nat) (g2 : Bool) => [(0, .ref a0), (1, .int (nI j)), (2, .int (nI z)), (3, .int fs), (4, .int (nI c))]) (fun (c : Nat) (z : Nat) (fs : Int32) (sh2 : Nat → Nat) (fo2 : Nat → Bool) (ba2 : Nat → Bool) (rc2 : Nat → Nat) (g2 : Bool) => []) (fun (c : Nat) (z : Nat) (fs : Int32) (sh2 : Nat → Nat) (fo2 : Nat → Bool) (ba2 : Nat → Bool) (rc2 : Nat → Nat) (g2 : Bool) => c ≤ t 1 ∧ (z, fs) = enF t s (fun l => anN (s l) (fedN t s l)) (10 * c) ∧ LDn t s sh2 fo2 ba2 (t 1)) (fun (c : Nat) (z : Nat) (fs : Int32) (sh2 : Nat → Nat) (fo2 : Nat → Bool) (ba2 : Nat → Bool) (rc2 : Nat → Nat) (g2 : Bool) => t 1 - c) ?_ 0 0 (-9) sh1_1 fo1_1 ba1_1 rc1_1 g1_1 ?_
      · intro c z fs sh2 fo2 ba2 rc2 g2 hI23 ih23
        obtain ⟨hc0, hz, hL⟩ := hI23
        refine j_iload (pc' := 25) C dX7_enough_23 rfl 4 rfl ?_
        refine j_aload_n (pc' := 26) C dX7_enough_25 rfl 0 rfl ?_
        refine j_get (v := .ref aN) (pc' := 29) C KX7 0 1 rfl (by decide) fl_X7_19 rfl rfl dX7_enough_26 rfl ?_
        refine j_get (v := .int (nI (t 1))) (pc' := 32) C KX1 1 1 rfl (by decide) fl_X7_183 rfl rfl dX7_enough_29 rfl ?_
        refine j_nc_ge (pc' := 35) C 130 dX7_enough_32 (by decide) rfl (by omega) (by omega) (fun c32 => ?_) (fun c32 => ?_)
        · refine j_iload_n (pc' := 131) C dX7_enough_130 rfl 1 rfl ?_
          refine j_nz_ne (pc' := 134) C 138 dX7_enough_131 (by decide) rfl (by omega) (fun c131 => ?_) (fun c131 => ?_)
          · refine j_iload_n (pc' := 139) C dX7_enough_138 rfl 3 rfl ?_
            exact j_iret C hr hk hA dX7_enough_139 (rfl) (⟨_, _, _, _, _, _, rfl, by unfold enQ; rw [if_neg (by rw [hin]; decide), if_neg (by rw [nI_eq (by omega) (by decide)]; omega), ← show c = t 1 by omega, ← hz]⟩)
          · refine j_iload_n (pc' := 135) C dX7_enough_134 rfl 2 rfl ?_
            refine j_goto C 139 dX7_enough_135 (by decide) ?_
            exact j_iret C hr hk hA dX7_enough_139 (rfl) (⟨_, _, _, _, _, _, rfl, by unfold enQ; rw [if_neg (by rw [hin]; decide), if_pos (by rw [c131]), ← show c = t 1 by omega, ← hz]⟩)
        · have h3 := hS.c (c := c) (by omega)
          have h4 := hcu c (by omega)
          refine j_aload_n (pc' := 36) C dX7_enough_35 rfl 0 rfl ?_
          refine j_get (v := .ref aO) (pc' := 39) C KX7 0 2 rfl (by decide) fl_X7_26 rfl rfl dX7_enough_36 rfl ?_
          refine j_get (v := .ref aCu) (pc' := 42) C KX4 7 1 rfl (by decide) fl_X7_120 rfl rfl dX7_enough_39 rfl ?_
          refine j_iload (pc' := 44) C dX7_enough_42 rfl 4 rfl ?_
          refine j_nald (pc' := 45) C 9 rfl (by omega) (by decide) dX7_enough_44 rfl ?_
          refine j_iconst (v := (nI 4)) (pc' := 46) C dX7_enough_45 rfl (by decide +kernel) ?_
          refine j_nc_eq (pc' := 49) C 52 dX7_enough_46 (by decide) rfl (by omega) (by omega) (fun c46 => ?_) (fun c46 => ?_)
          · refine j_iconst (v := (nI 0)) (pc' := 53) C dX7_enough_52 rfl (by decide +kernel) ?_
            refine j_istore (pc' := 55) C [(5, .int (nI 0)), (0, .ref a0), (1, .int (nI j)), (2, .int (nI z)), (3, .int fs), (4, .int (nI c))] dX7_enough_53 rfl (by decide) rfl ?_
            refine j_lsub [(0, .ref a0), (1, .int (nI j)), (2, .int (nI z)), (3, .int fs), (4, .int (nI c)), (5, .int (nI 0))] [1, 2, 3, 4, 5, 0] rfl ?_
            refine j_loop8 (fun (k : Nat) (z3 : Nat) (fs3 : Int32) (sh3 : Nat → Nat) (fo3 : Nat → Bool) (ba3 : Nat → Bool) (rc3 : Nat → Nat) (g3 : Bool) => [(a0, .inr (7, [.ref aR, .ref aN, .ref aO, .ref aH, .ref aE, .ref aW, .ref aK, .ref aIm, .ref aKp, .ref aMb])), (aN, .inr (1, [.int (nI (t 0)), .int (nI (t 1)), .int (nI (t 2)), .ref aKd, .ref aFi, .ref aSe, .ref aSb, .ref aLd])), (aKd, .inl (cyI, 9, .inl (nA kd))), (aFi, .inl (cyI, 9, .inl (nA fi))), (aSe, .inl (cyI, 9, .inl (nA se))), (aSb, .inl (cyI, 9, .inl (nA sb))), (aLd, .inl (cyI, 3, .inl (nA ld))), (aO, .inr (4, [.ref aWi, .ref aCu, .ref aCb, .ref aSk])), (aWi, .inl (cyI, 3, .inl (nA wi))), (aCu, .inl (cyI, 9, .inl (nA cu))), (aCb, .inl (cyI, 9, .inl (nA cb))), (aSk, .inl (cyI, 9, .inl (nA sk))), (aW, .inr (6, [.ref aSh, .ref aN, .ref aO, .ref aFo, .ref aBa, .ref aRc, .int (bI g3)])), (aSh, .inl (cyI, 9, .inl (nA sh3))), (aFo, .inl (cyZ, 9, .inl (bA fo3))), (aBa, .inl (cyZ, 9, .inl (bA ba3))), (aRc, .inl (cyI, 7, .inl (nA rc3))), (aMb, .inl (cyI, 3, .inl (nA mb1_1)))]) (fun (k : Nat) (z3 : Nat) (fs3 : Int32) (sh3 : Nat → Nat) (fo3 : Nat → Bool) (ba3 : Nat → Bool) (rc3 : Nat → Nat) (g3 : Bool) => [(0, .ref a0), (1, .int (nI j)), (2, .int (nI z3)), (3, .int fs3), (4, .int (nI c)), (5, .int (nI k))]) (fun (k : Nat) (z3 : Nat) (fs3 : Int32) (sh3 : Nat → Nat) (fo3 : Nat → Bool) (ba3 : Nat → Bool) (rc3 : Nat → Nat) (g3 : Bool) => []) (fun (k : Nat) (z3 : Nat) (fs3 : Int32) (sh3 : Nat → Nat) (fo3 : Nat → Bool) (ba3 : Nat → Bool) (rc3 : Nat → Nat) (g3 : Bool) => k ≤ 4 ∧ (z3, fs3) = enF t s (fun l => anN (s l) (fedN t s l)) (10 * c + eO k 0) ∧ LDn t s sh3 fo3 ba3 (t 1)) (fun (k : Nat) (z3 : Nat) (fs3 : Int32) (sh3 : Nat → Nat) (fo3 : Nat → Bool) (ba3 : Nat → Bool) (rc3 : Nat → Nat) (g3 : Bool) => 4 - k) ?_ 0 z fs sh2 fo2 ba2 rc2 g2 ?_
            · intro k z3 fs3 sh3 fo3 ba3 rc3 g3 hI55 ih55
              obtain ⟨hk0, hz3, hL3⟩ := hI55
              refine j_iload (pc' := 57) C dX7_enough_55 rfl 5 rfl ?_
              refine j_iconst (v := (nI 4)) (pc' := 58) C dX7_enough_57 rfl (by decide +kernel) ?_
              refine j_nc_ge (pc' := 61) C 124 dX7_enough_58 (by decide) rfl (by omega) (by omega) (fun c58 => ?_) (fun c58 => ?_)
              · refine j_iinc (v := (nI (c + 1))) (pc' := 127) C [(4, .int (nI (c + 1))), (0, .ref a0), (1, .int (nI j)), (2, .int (nI z3)), (3, .int fs3), (5, .int (nI k))] dX7_enough_124 rfl 4 rfl (inc_n c 1) (by decide) rfl ?_
                refine j_goto C 23 dX7_enough_127 (by decide) ?_
                refine j_lsub [(0, .ref a0), (1, .int (nI j)), (2, .int (nI z3)), (3, .int fs3), (4, .int (nI (c + 1)))] [1, 2, 3, 4, 0] rfl ?_
                exact ih23 (c + 1) z3 fs3 sh3 fo3 ba3 rc3 g3 (⟨by omega, by rw [show 10 * (c + 1) = 10 * c + eO 4 0 by unfold eO; rw [if_neg (by decide)]; omega, ← show k = 4 by omega]; exact hz3, hL3⟩) (by omega)
              · refine j_iconst (v := (nI 0)) (pc' := 62) C dX7_enough_61 rfl (by decide +kernel) ?_
                refine j_istore (pc' := 64) C [(6, .int (nI 0)), (0, .ref a0), (1, .int (nI j)), (2, .int (nI z3)), (3, .int fs3), (4, .int (nI c)), (5, .int (nI k))] dX7_enough_62 rfl (by decide) rfl ?_
                refine j_lsub [(0, .ref a0), (1, .int (nI j)), (2, .int (nI z3)), (3, .int fs3), (4, .int (nI c)), (5, .int (nI k)), (6, .int (nI 0))] [1, 2, 3, 4, 5, 6, 0] rfl ?_
                refine j_loop8 (fun (b : Nat) (z4 : Nat) (fs4 : Int32) (sh4 : Nat → Nat) (fo4 : Nat → Bool) (ba4 : Nat → Bool) (rc4 : Nat → Nat) (g4 : Bool) => [(a0, .inr (7, [.ref aR, .ref aN, .ref aO, .ref aH, .ref aE, .ref aW, .ref aK, .ref aIm, .ref aKp, .ref aMb])), (aN, .inr (1, [.int (nI (t 0)), .int (nI (t 1)), .int (nI (t 2)), .ref aKd, .ref aFi, .ref aSe, .ref aSb, .ref aLd])), (aKd, .inl (cyI, 9, .inl (nA kd))), (aFi, .inl (cyI, 9, .inl (nA fi))), (aSe, .inl (cyI, 9, .inl (nA se))), (aSb, .inl (cyI, 9, .inl (nA sb))), (aLd, .inl (cyI, 3, .inl (nA ld))), (aO, .inr (4, [.ref aWi, .ref aCu, .ref aCb, .ref aSk])), (aWi, .inl (cyI, 3, .inl (nA wi))), (aCu, .inl (cyI, 9, .inl (nA cu))), (aCb, .inl (cyI, 9, .inl (nA cb))), (aSk, .inl (cyI, 9, .inl (nA sk))), (aW, .inr (6, [.ref aSh, .ref aN, .ref aO, .ref aFo, .ref aBa, .ref aRc, .int (bI g4)])), (aSh, .inl (cyI, 9, .inl (nA sh4))), (aFo, .inl (cyZ, 9, .inl (bA fo4))), (aBa, .inl (cyZ, 9, .inl (bA ba4))), (aRc, .inl (cyI, 7, .inl (nA rc4))), (aMb, .inl (cyI, 3, .inl (nA mb1_1)))]) (fun (b : Nat) (z4 : Nat) (fs4 : Int32) (sh4 : Nat → Nat) (fo4 : Nat → Bool) (ba4 : Nat → Bool) (rc4 : Nat → Nat) (g4 : Bool) => [(0, .ref a0), (1, .int (nI j)), (2, .int (nI z4)), (3, .int fs4), (4, .int (nI c)), (5, .int (nI k)), (6, .int (nI b))]) (fun (b : Nat) (z4 : Nat) (fs4 : Int32) (sh4 : Nat → Nat) (fo4 : Nat → Bool) (ba4 : Nat → Bool) (rc4 : Nat → Nat) (g4 : Bool) => []) (fun (b : Nat) (z4 : Nat) (fs4 : Int32) (sh4 : Nat → Nat) (fo4 : Nat → Bool) (ba4 : Nat → Bool) (rc4 : Nat → Nat) (g4 : Bool) => b ≤ (if k < 2 then 4 else 1) ∧ b ≤ 4 ∧ (z4, fs4) = enF t s (fun l => anN (s l) (fedN t s l)) (10 * c + eO k b) ∧ LDn t s sh4 fo4 ba4 (t 1)) (fun (b : Nat) (z4 : Nat) (fs4 : Int32) (sh4 : Nat → Nat) (fo4 : Nat → Bool) (ba4 : Nat → Bool) (rc4 : Nat → Nat) (g4 : Bool) => (if k < 2 then 4 else 1) - b) ?_ 0 z3 fs3 sh3 fo3 ba3 rc3 g3 ?_
                · intro b z4 fs4 sh4 fo4 ba4 rc4 g4 hI64 ih64
                  obtain ⟨hb0, hb9, hz4, hL4⟩ := hI64
                  refine j_iload (pc' := 66) C dX7_enough_64 rfl 6 rfl ?_
                  refine j_iload (pc' := 68) C dX7_enough_66 rfl 5 rfl ?_
                  refine j_cSi (As := [.int (nI k)]) (wr := [(a0, .inr (7, [.ref aR, .ref aN, .ref aO, .ref aH, .ref aE, .ref aW, .ref aK, .ref aIm, .ref aKp, .ref aMb])), (aN, .inr (1, [.int (nI (t 0)), .int (nI (t 1)), .int (nI (t 2)), .ref aKd, .ref aFi, .ref aSe, .ref aSb, .ref aLd])), (aKd, .inl (cyI, 9, .inl (nA kd))), (aFi, .inl (cyI, 9, .inl (nA fi))), (aSe, .inl (cyI, 9, .inl (nA se))), (aSb, .inl (cyI, 9, .inl (nA sb))), (aLd, .inl (cyI, 3, .inl (nA ld))), (aO, .inr (4, [.ref aWi, .ref aCu, .ref aCb, .ref aSk])), (aWi, .inl (cyI, 3, .inl (nA wi))), (aCu, .inl (cyI, 9, .inl (nA cu))), (aCb, .inl (cyI, 9, .inl (nA cb))), (aSk, .inl (cyI, 9, .inl (nA sk))), (aW, .inr (6, [.ref aSh, .ref aN, .ref aO, .ref aFo, .ref aBa, .ref aRc, .int (bI g4)])), (aSh, .inl (cyI, 9, .inl (nA sh4))), (aFo, .inl (cyZ, 9, .inl (bA fo4))), (aBa, .inl (cyZ, 9, .inl (bA ba4))), (aRc, .inl (cyI, 7, .inl (nA rc4))), (aMb, .inl (cyI, 3, .inl (nA mb1_1)))]) (pc' := 71) C (c_X7_choicesOfSwitch (k := k) (hk2 := by omega)) Y_X7_choicesOfSwitch (ml_X7_150) [] [0, 1, 2, 3, 4, 5, 6, 7, 8, 9, 10, 11, 12, 13, 14, 15, 16, 17] rfl rfl rfl rfl (by decide) dX7_enough_68 rfl rfl rfl (Nat.le_of_ble_eq_true rfl) ⟨Nat.le_of_ble_eq_true rfl, Nat.le_of_ble_eq_true rfl⟩ ⟨Nat.le_of_ble_eq_true rfl, Nat.le_of_ble_eq_true rfl⟩ ⟨rfl, rfl⟩ (fun r2 w1 hQ => ?_)
                  obtain ⟨rfl, rfl⟩ := hQ
                  refine j_perm [(a0, .inr (7, [.ref aR, .ref aN, .ref aO, .ref aH, .ref aE, .ref aW, .ref aK, .ref aIm, .ref aKp, .ref aMb])), (aN, .inr (1, [.int (nI (t 0)), .int (nI (t 1)), .int (nI (t 2)), .ref aKd, .ref aFi, .ref aSe, .ref aSb, .ref aLd])), (aKd, .inl (cyI, 9, .inl (nA kd))), (aFi, .inl (cyI, 9, .inl (nA fi))), (aSe, .inl (cyI, 9, .inl (nA se))), (aSb, .inl (cyI, 9, .inl (nA sb))), (aLd, .inl (cyI, 3, .inl (nA ld))), (aO, .inr (4, [.ref aWi, .ref aCu, .ref aCb, .ref aSk])), (aWi, .inl (cyI, 3, .inl (nA wi))), (aCu, .inl (cyI, 9, .inl (nA cu))), (aCb, .inl (cyI, 9, .inl (nA cb))), (aSk, .inl (cyI, 9, .inl (nA sk))), (aW, .inr (6, [.ref aSh, .ref aN, .ref aO, .ref aFo, .ref aBa, .ref aRc, .int (bI g4)])), (aSh, .inl (cyI, 9, .inl (nA sh4))), (aFo, .inl (cyZ, 9, .inl (bA fo4))), (aBa, .inl (cyZ, 9, .inl (bA ba4))), (aRc, .inl (cyI, 7, .inl (nA rc4))), (aMb, .inl (cyI, 3, .inl (nA mb1_1)))] [0, 1, 2, 3, 4, 5, 6, 7, 8, 9, 10, 11, 12, 13, 14, 15, 16, 17] rfl rfl (by decide) ?_
                  refine j_nc_ge (pc' := 74) C 118 dX7_enough_71 (by decide) rfl (by omega) (by split <;> omega) (fun c71 => ?_) (fun c71 => ?_)
                  · refine j_iinc (v := (nI (k + 1))) (pc' := 121) C [(5, .int (nI (k + 1))), (0, .ref a0), (1, .int (nI j)), (2, .int (nI z4)), (3, .int fs4), (4, .int (nI c)), (6, .int (nI b))] dX7_enough_118 rfl 5 rfl (inc_n k 1) (by decide) rfl ?_
                    refine j_goto C 55 dX7_enough_121 (by decide) ?_
                    refine j_lsub [(0, .ref a0), (1, .int (nI j)), (2, .int (nI z4)), (3, .int fs4), (4, .int (nI c)), (5, .int (nI (k + 1)))] [1, 2, 3, 4, 5, 0] rfl ?_
                    exact ih55 (k + 1) z4 fs4 sh4 fo4 ba4 rc4 g4 (⟨by omega, by rw [← eO_n k c58, ← show b = (if k < 2 then 4 else 1) by omega]; exact hz4, hL4⟩) (by omega)
                  · have hb4 : b < 4 := by by_cases q9 : k < 2; (rw [if_pos q9] at c71; exact c71); (rw [if_neg q9] at c71; omega)
                    have hle := enF_le t s (fun l => anN (s l) (fedN t s l)) (10 * c + eO k b)
                    have heo := (eO_k k (by omega) b c71).2.2
                    rw [← hz4] at hle
                    dsimp only at hle
                    refine j_aload_n (pc' := 75) C dX7_enough_74 rfl 0 rfl ?_
                    refine j_iload (pc' := 77) C dX7_enough_75 rfl 4 rfl ?_
                    refine j_iload (pc' := 79) C dX7_enough_77 rfl 5 rfl ?_
                    refine j_iload (pc' := 81) C dX7_enough_79 rfl 6 rfl ?_
                    refine j_cVi (As := [.int (nI c), .int (nI k), .int (nI b)]) (wr := []) (pc' := 84) C (c_X7_isEnough (a0 := a0) (aR := aR) (aN := aN) (aO := aO) (aH := aH) (aE := aE) (aW := aW) (aK := aK) (aIm := aIm) (aKp := aKp) (aMb := aMb) (t := t) (aKd := aKd) (aFi := aFi) (aSe := aSe) (aSb := aSb) (aLd := aLd) (kd := kd) (fi := fi) (se := se) (sb := sb) (ld := ld) (aWi := aWi) (aCu := aCu) (aCb := aCb) (aSk := aSk) (wi := wi) (cu := cu) (cb := cb) (sk := sk) (aSh := aSh) (aFo := aFo) (aBa := aBa) (aRc := aRc) (gr := g4) (sh := sh4) (fo := fo4) (ba := ba4) (rc := rc4) (mb := mb1_1) (s := s) (c := c) (k := k) (b := b) (m := (fun l => anN (s l) (fedN t s l))) (hT := by first | assumption | omega) (hS := by first | assumption | omega) (hN := by first | assumption | omega) (hR := by first | assumption | omega) (hc := c32) (hk4 := c58) (hb4 := hb4) (hL := hL4) (hm := hF12.2) (hmb := fun l9 hl9 => by rw [hF12.2 l9 hl9]; exact Nat.lt_of_le_of_lt (anN_le _ _) (hS.1 l9 (by omega)))) Y_X7_isEnough (ml_X7_198) [0, 1, 2, 3, 4, 5, 6, 7, 8, 9, 10, 11, 12, 13, 14, 15, 16, 17] [] rfl rfl rfl rfl (by decide) rfl rfl rfl dX7_enough_81 rfl rfl rfl (Nat.le_of_ble_eq_true rfl) ⟨Nat.le_of_ble_eq_true rfl, Nat.le_of_ble_eq_true rfl⟩ ⟨Nat.le_of_ble_eq_true rfl, Nat.le_of_ble_eq_true rfl⟩ ⟨rfl, rfl⟩ (fun r3 w1 hQ => ?_)
                    obtain ⟨sh1_3, fo1_3, ba1_3, rc1_3, g1_3, rfl, rfl, hF81⟩ := hQ
                    refine j_b_ne (pc' := 87) C 90 dX7_enough_84 (by decide) rfl (fun c84 => ?_) (fun c84 => ?_)
                    · refine j_iload_n (pc' := 91) C dX7_enough_90 rfl 2 rfl ?_
                      refine j_nz_ne (pc' := 94) C 109 dX7_enough_91 (by decide) rfl (by omega) (fun c91 => ?_) (fun c91 => ?_)
                      · refine j_iinc (v := (nI (z4 + 1))) (pc' := 112) C [(2, .int (nI (z4 + 1))), (0, .ref a0), (1, .int (nI j)), (3, .int fs4), (4, .int (nI c)), (5, .int (nI k)), (6, .int (nI b))] dX7_enough_109 rfl 2 rfl (inc_n z4 1) (by decide) rfl ?_
                        refine j_iinc (v := (nI (b + 1))) (pc' := 115) C [(6, .int (nI (b + 1))), (2, .int (nI (z4 + 1))), (0, .ref a0), (1, .int (nI j)), (3, .int fs4), (4, .int (nI c)), (5, .int (nI k))] dX7_enough_112 rfl 6 rfl (inc_n b 1) (by decide) rfl ?_
                        refine j_goto C 64 dX7_enough_115 (by decide) ?_
                        refine j_lsub [(0, .ref a0), (1, .int (nI j)), (2, .int (nI (z4 + 1))), (3, .int fs4), (4, .int (nI c)), (5, .int (nI k)), (6, .int (nI (b + 1)))] [2, 3, 1, 4, 5, 6, 0] rfl ?_
                        exact ih64 (b + 1) (z4 + 1) fs4 sh1_3 fo1_3 ba1_3 rc1_3 g1_3 (⟨by omega, by omega, by rw [eO_s, enF_st (by omega) (by omega) c71, if_pos c84, if_neg (by rw [← hz4]; exact c91), ← hz4], hF81⟩) (by omega)
                      · refine j_bipush (v := (nI 100)) (pc' := 96) C dX7_enough_94 rfl (by decide +kernel) ?_
                        refine j_iload (pc' := 98) C dX7_enough_96 rfl 4 rfl ?_
                        refine j_imul (v := (nI (100 * c))) (pc' := 99) C dX7_enough_98 rfl (pk_mul 100 c) ?_
                        refine j_bipush (v := (nI 10)) (pc' := 101) C dX7_enough_99 rfl (by decide +kernel) ?_
                        refine j_iload (pc' := 103) C dX7_enough_101 rfl 5 rfl ?_
                        refine j_imul (v := (nI (10 * k))) (pc' := 104) C dX7_enough_103 rfl (pk_mul 10 k) ?_
                        refine j_iadd (v := (nI ((100 * c) + (10 * k)))) (pc' := 105) C dX7_enough_104 rfl (nI_add (100 * c) (10 * k)) ?_
                        refine j_iload (pc' := 107) C dX7_enough_105 rfl 6 rfl ?_
                        refine j_iadd (v := (nI (((100 * c) + (10 * k)) + b))) (pc' := 108) C dX7_enough_107 rfl (nI_add ((100 * c) + (10 * k)) b) ?_
                        refine j_istore_n (pc' := 109) C [(3, .int (nI (((100 * c) + (10 * k)) + b))), (0, .ref a0), (1, .int (nI j)), (2, .int (nI z4)), (4, .int (nI c)), (5, .int (nI k)), (6, .int (nI b))] dX7_enough_108 rfl (by decide) rfl ?_
                        refine j_iinc (v := (nI (z4 + 1))) (pc' := 112) C [(2, .int (nI (z4 + 1))), (3, .int (nI (((100 * c) + (10 * k)) + b))), (0, .ref a0), (1, .int (nI j)), (4, .int (nI c)), (5, .int (nI k)), (6, .int (nI b))] dX7_enough_109 rfl 3 rfl (inc_n z4 1) (by decide) rfl ?_
                        refine j_iinc (v := (nI (b + 1))) (pc' := 115) C [(6, .int (nI (b + 1))), (2, .int (nI (z4 + 1))), (3, .int (nI (((100 * c) + (10 * k)) + b))), (0, .ref a0), (1, .int (nI j)), (4, .int (nI c)), (5, .int (nI k))] dX7_enough_112 rfl 6 rfl (inc_n b 1) (by decide) rfl ?_
                        refine j_goto C 64 dX7_enough_115 (by decide) ?_
                        refine j_lsub [(0, .ref a0), (1, .int (nI j)), (2, .int (nI (z4 + 1))), (3, .int (nI (((100 * c) + (10 * k)) + b))), (4, .int (nI c)), (5, .int (nI k)), (6, .int (nI (b + 1)))] [3, 4, 1, 2, 5, 6, 0] rfl ?_
                        exact ih64 (b + 1) (z4 + 1) (nI (((100 * c) + (10 * k)) + b)) sh1_3 fo1_3 ba1_3 rc1_3 g1_3 (⟨by omega, by omega, by rw [eO_s, enF_st (by omega) (by omega) c71, if_pos c84, if_pos (by rw [← hz4]; exact c91), ← hz4], hF81⟩) (by omega)
                    · refine j_goto C 112 dX7_enough_87 (by decide) ?_
                      refine j_iinc (v := (nI (b + 1))) (pc' := 115) C [(6, .int (nI (b + 1))), (0, .ref a0), (1, .int (nI j)), (2, .int (nI z4)), (3, .int fs4), (4, .int (nI c)), (5, .int (nI k))] dX7_enough_112 rfl 6 rfl (inc_n b 1) (by decide) rfl ?_
                      refine j_goto C 64 dX7_enough_115 (by decide) ?_
                      refine j_lsub [(0, .ref a0), (1, .int (nI j)), (2, .int (nI z4)), (3, .int fs4), (4, .int (nI c)), (5, .int (nI k)), (6, .int (nI (b + 1)))] [1, 2, 3, 4, 5, 6, 0] rfl ?_
                      exact ih64 (b + 1) z4 fs4 sh1_3 fo1_3 ba1_3 rc1_3 g1_3 (⟨by omega, by omega, by rw [eO_s, enF_st (by omega) (by omega) c71, if_neg (by rw [c84]; decide)]; exact hz4, hF81⟩) (by omega)
                · exact ⟨Nat.zero_le _, by omega, hz3, hL3⟩
            · exact ⟨Nat.zero_le _, by rw [show eO 0 0 = 0 from rfl, Nat.add_zero]; exact hz, hL⟩
          · refine j_goto C 124 dX7_enough_49 (by decide) ?_
            refine j_iinc (v := (nI (c + 1))) (pc' := 127) C [(4, .int (nI (c + 1))), (0, .ref a0), (1, .int (nI j)), (2, .int (nI z)), (3, .int fs)] dX7_enough_124 rfl 4 rfl (inc_n c 1) (by decide) rfl ?_
            refine j_goto C 23 dX7_enough_127 (by decide) ?_
            refine j_lsub [(0, .ref a0), (1, .int (nI j)), (2, .int (nI z)), (3, .int fs), (4, .int (nI (c + 1)))] [1, 2, 3, 4, 0] rfl ?_
            exact ih23 (c + 1) z fs sh2 fo2 ba2 rc2 g2 (⟨by omega, by rw [show 10 * (c + 1) = 10 * c + 10 by omega, enF_no (by omega) 10 (Nat.le_refl _)]; exact hz, hL⟩) (by omega)
      · exact ⟨Nat.zero_le _, rfl, hF12.1⟩
    · refine j_iconst (v := (-1)) (pc' := 10) C dX7_enough_9 rfl (by decide +kernel) ?_
      exact j_iret C hr hk hA dX7_enough_10 (rfl) (⟨_, _, _, _, _, _, rfl, by unfold enQ; rw [if_pos (in_hi2 (a := 1) (by decide) c6)]⟩)
