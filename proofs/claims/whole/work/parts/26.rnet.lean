/-! what is read keeps the net's rules -/
theorem addC_at (d : Nat → Nat) (kd u v b k : Nat) (h : k ≠ 1) (h1 : k ≠ 3 + d 1) (h2 : k ≠ 12 + d 1) (h3 : k ≠ 21 + d 1) (h4 : k ≠ 30 + d 1) : addC d kd u v b k = d k := by
  unfold addC
  rw [uN_n h, uN_n h4, uN_n h3, uN_n h2, uN_n h1]
theorem WT_addC {d : Nat → Nat} (h : WT d) {kd u v b : Nat} (hc : d 1 < 9) (hk : kd < 4) (hu : u < d 0) (hv : v < d 0) (hb : kd < 2 → b < 4) (hb2 : 2 ≤ kd → b = 4294967287) : WT (addC d kd u v b) := by
  have h1 := h.n
  have e0 : addC d kd u v b 0 = d 0 := addC_at d kd u v b 0 (by omega) (by omega) (by omega) (by omega) (by omega)
  have e1 : addC d kd u v b 1 = d 1 + 1 := by unfold addC; rw [uN_s]
  have e2 : addC d kd u v b 2 = d 2 := addC_at d kd u v b 2 (by omega) (by omega) (by omega) (by omega) (by omega)
  refine ⟨by omega, by omega, by omega, by omega, fun c hc2 => ?_, fun l hl => ?_⟩
  · rw [e1] at hc2
    rw [e0]
    by_cases q : c = d 1
    · subst q
      have a1 : addC d kd u v b (3 + d 1) = kd := by unfold addC; rw [uN_n (by omega), uN_n (by omega), uN_n (by omega), uN_n (by omega), uN_s]
      have a2 : addC d kd u v b (12 + d 1) = u := by unfold addC; rw [uN_n (by omega), uN_n (by omega), uN_n (by omega), uN_s]
      have a3 : addC d kd u v b (21 + d 1) = v := by unfold addC; rw [uN_n (by omega), uN_n (by omega), uN_s]
      have a4 : addC d kd u v b (30 + d 1) = b := by unfold addC; rw [uN_n (by omega), uN_s]
      rw [a1, a2, a3, a4]
      exact ⟨hk, hu, hv, hb, hb2⟩
    · rw [addC_at d kd u v b (3 + c) (by omega) (by omega) (by omega) (by omega) (by omega), addC_at d kd u v b (12 + c) (by omega) (by omega) (by omega) (by omega) (by omega), addC_at d kd u v b (21 + c) (by omega) (by omega) (by omega) (by omega) (by omega), addC_at d kd u v b (30 + c) (by omega) (by omega) (by omega) (by omega) (by omega)]
      exact h.c (by omega)
  · rw [e2] at hl
    rw [e0, addC_at d kd u v b (39 + l) (by omega) (by omega) (by omega) (by omega) (by omega)]
    exact h.l hl
theorem WT_addL {d : Nat → Nat} (h : WT d) {u : Nat} (hc : d 2 < 3) (hu : u < d 0) (hu0 : 0 < u) : WT (addL d u) := by
  have h1 := h.n
  have e : ∀ k, k < 39 → k ≠ 2 → addL d u k = d k := fun k hk h2 => by unfold addL; rw [uN_n h2, uN_n (by omega)]
  have e2 : addL d u 2 = d 2 + 1 := by unfold addL; rw [uN_s]
  refine ⟨by rw [e 0 (by omega) (by omega)]; omega, by rw [e 0 (by omega) (by omega)]; omega, by rw [e 1 (by omega) (by omega)]; omega, by omega, fun c hc2 => ?_, fun l hl => ?_⟩
  · rw [e 1 (by omega) (by omega)] at hc2
    rw [e 0 (by omega) (by omega), e (3 + c) (by omega) (by omega), e (12 + c) (by omega) (by omega), e (21 + c) (by omega) (by omega), e (30 + c) (by omega) (by omega)]
    exact h.c hc2
  · rw [e2] at hl
    rw [e 0 (by omega) (by omega)]
    unfold addL
    rw [uN_n (by omega)]
    by_cases q : l = d 2
    · rw [q, uN_s]; exact ⟨hu0, hu⟩
    · rw [uN_n (by omega)]; exact h.l (by omega)
theorem WT_n {d : Nat → Nat} (h : WT d) {u : Nat} (h1 : d 1 = 0) (h2 : d 2 = 0) (hu : 2 ≤ u ∧ u ≤ 7) : WT (uN d 0 u) := by
  have hn := h.n
  refine ⟨by rw [uN_s]; omega, by rw [uN_s]; omega, by rw [uN_n (by omega)]; omega, by rw [uN_n (by omega)]; omega, fun c hc => ?_, fun l hl => ?_⟩
  · rw [uN_n (by omega)] at hc; omega
  · rw [uN_n (by omega)] at hl; omega
theorem frF_0 {d : Nat → Nat} {u : Nat} : ∀ {i : Nat}, frF d u i = true → 0 < u
  | 0, h => by have := of_decide_eq_true h; omega
  | i + 1, h => by
    rw [frF, Bool.and_eq_true] at h
    exact frF_0 h.1
theorem rdC_WT {x : Nat → Nat} {n kd p q : Nat} {d d' : Nat → Nat} (hT : WT d) (hc : d 1 < 9) (hk : kd < 4) (h : rdC x n kd p d = .inr (q, d')) : WT d' := by
  have h1 := hT.n
  unfold rdC at h
  split at h
  · cases h
  · rename_i a1
    have b1 := okN_t (Bool.not_eq_false _ ▸ a1)
    split at h
    · cases h
    · rename_i a2
      have a3 := Bool.not_eq_false _ ▸ a2
      rw [Bool.and_eq_true] at a3
      have b2 := okN_t a3.1
      split at h
      · split at h
        · cases h
        · rename_i a4
          have b3 := okN_t (Bool.not_eq_false _ ▸ a4)
          cases h
          exact WT_addC hT hc hk (by omega) (by omega) (fun _ => by omega) (fun q => by omega)
      · cases h
        exact WT_addC hT hc hk (by omega) (by omega) (fun q => by omega) (fun _ => rfl)
theorem rdB_WT {x : Nat → Nat} {n v p q : Nat} {d d' : Nat → Nat} (hT : WT d) (hm : v = 110 → d 1 = 0 ∧ d 2 = 0) (hm1 : v = 108 → d 2 < 3) (hm2 : v ≠ 108 → v ≠ 110 → d 1 < 9) (h : rdB x n v p d = .inr (q, d')) : WT d' := by
  have h1 := hT.n
  unfold rdB at h
  split at h
  · rename_i e
    split at h
    · cases h
    · rename_i a1
      have b1 := okN_t (Bool.not_eq_false _ ▸ a1)
      cases h
      exact WT_n hT (hm e).1 (hm e).2 ⟨by omega, by omega⟩
  · rename_i e0
    split at h
    · rename_i e
      split at h
      · cases h
      · rename_i a1
        have a3 := Bool.not_eq_false _ ▸ a1
        rw [Bool.and_eq_true] at a3
        have b1 := okN_t a3.1
        cases h
        exact WT_addL hT (hm1 e) (by omega) (frF_0 a3.2)
    · rename_i e
      exact rdC_WT hT (hm2 e e0) (kdL_lt v) h
theorem rdA_end {x : Nat → Nat} {n f k p : Nat} {d : Nat → Nat} (h : tkv x n p = 300) : rdA x n (f + 1) k p d = .inr (k, d) := by rw [rdA, if_pos h]
theorem rdA_bad {x : Nat → Nat} {n f k p a : Nat} {d : Nat → Nat} (h : tkv x n p ≠ 300) (h2 : rdI x n k p d = .inl a) : rdA x n (f + 1) k p d = .inl a := by rw [rdA, if_neg h, h2]
theorem rdA_next {x : Nat → Nat} {n f k p q : Nat} {d d' : Nat → Nat} (h : tkv x n p ≠ 300) (h2 : rdI x n k p d = .inr (q, d')) : rdA x n (f + 1) k p d = rdA x n f (k + 1) q d' := by rw [rdA, if_neg h, h2]
theorem tko_0 {x : Nat → Nat} {n p : Nat} (h : tko x n p = 0) : tkv x n p = 300 := by
  unfold tko tkc at h
  repeat' split at h
  all_goals first | assumption | exact absurd h (by decide)
theorem tko_n0 {x : Nat → Nat} {n p : Nat} (h : ¬ tko x n p = 0) : tkv x n p ≠ 300 := fun e => h (by unfold tko tkc; rw [if_pos e])
theorem tko_1 {x : Nat → Nat} {n p : Nat} (h : tko x n p = 1) : isL (tkv x n p) = true := by
  unfold tko tkc at h
  repeat' split at h
  all_goals first | assumption | exact absurd h (by decide)
theorem tko_n1 {x : Nat → Nat} {n p : Nat} (h : ¬ tko x n p = 1) : isL (tkv x n p) = false := by
  cases hL : isL (tkv x n p)
  · rfl
  · have h2 := of_decide_eq_true hL
    have h3 : isD (tkv x n p) = false := by unfold isD; exact decide_eq_false (by omega)
    exact absurd (by unfold tko tkc; rw [if_neg (by omega), if_neg (by omega), h3, if_neg (by decide), if_neg (by omega), if_pos hL]) h
theorem tko_3 {x : Nat → Nat} {n p : Nat} (h : tko x n p = 3) : tkv x n p = 59 := by
  unfold tko tkc at h
  repeat' split at h
  all_goals first | assumption | exact absurd h (by decide)
theorem tko_n3 {x : Nat → Nat} {n p : Nat} (h : ¬ tko x n p = 3) : tkv x n p ≠ 59 := fun e => h (by unfold tko tkc; rw [e]; rfl)
theorem isL_lt {v : Nat} (h : isL v = true) : v < 256 := by have := of_decide_eq_true h; omega
theorem WT_d0 : WT d0N := ⟨by decide, by decide, by decide, by decide, fun c hc => absurd hc (by simp [d0N]), fun l hl => absurd hl (by simp [d0N])⟩
theorem d0_far : ∀ k, 42 ≤ k → d0N k = 0 := fun k hk => if_neg (by omega)
theorem fl_all {t d : Nat → Nat} {n : Nat} (h : ∀ k, n ≤ k → t k = d k) : flN t d 0 n = d := by
  funext k
  unfold flN
  by_cases q : k < n
  · rw [if_pos ⟨Nat.zero_le _, by omega⟩, Nat.sub_zero]
  · rw [if_neg (by omega), h k (by omega)]
/-- what is fed doesn't rest on wishes -/
theorem sh_cong {t s s' : Nat → Nat} (h : ∀ k, 3 ≤ k → s k = s' k) : shB t s = shB t s' := by
  funext c st
  unfold shB
  rw [h (21 + c) (by omega), h (3 + c) (by omega), h (12 + c) (by omega)]
theorem wy_cong {t s s' : Nat → Nat} (h : ∀ k, 3 ≤ k → s k = s' k) : wyB t s = wyB t s' := by
  funext c b
  unfold wyB
  rw [h (21 + c) (by omega), h (3 + c) (by omega)]
theorem lvS_cong {t s s' : Nat → Nat} (h : ∀ k, 3 ≤ k → s k = s' k) (st wo : Nat) : ∀ c z, lvS t s st wo c z = lvS t s' st wo c z
  | 0, z => rfl
  | c + 1, z => by
    rw [lvS, lvS, lvS_cong h st wo c z]
    unfold lvC lvB lvA
    rw [sh_cong h, wy_cong h]
theorem lvR_cong {t s s' : Nat → Nat} (h : ∀ k, 3 ≤ k → s k = s' k) (st wo : Nat) : ∀ r, lvR t s st wo r = lvR t s' st wo r
  | 0 => rfl
  | r + 1 => by rw [lvR, lvR, lvR_cong h st wo r, lvS_cong h]
theorem fedB_cong {t s s' : Nat → Nat} (h : ∀ k, 3 ≤ k → s k = s' k) (l st wo : Nat) : fedB t s l st wo = fedB t s' l st wo := by
  unfold fedB
  rw [lvR_cong h]
theorem fedN_cong {t s s' : Nat → Nat} (h : ∀ k, 3 ≤ k → s k = s' k) (l : Nat) : fedN t s l = fedN t s' l := by
  unfold fedN
  congr 1
  funext st
  exact fedB_cong h l st 0
theorem WS_0 : WS s0N := ⟨fun l hl => by unfold s0N; rw [if_neg (by omega)]; decide, fun c hc => by
  unfold s0N
  rw [if_pos (by omega), if_neg (by omega), if_neg (by omega)]
  decide⟩
theorem WS_fl {f : Nat → Nat} (hf : ∀ l, f l < 65536) {i : Nat} (hi : i ≤ 3) : WS (flN s0N f 0 i) := by
  refine ⟨fun l hl => ?_, fun c hc => ?_⟩
  · unfold flN
    split
    · exact hf _
    · exact WS_0.1 l hl
  · rw [flN_o (by omega), flN_o (by omega), flN_o (by omega)]
    exact WS_0.2 c hc
theorem rdB_ge {x : Nat → Nat} {n v p q : Nat} {d d' : Nat → Nat} (h : rdB x n v p d = .inr (q, d')) (hp : p ≤ n) : p ≤ q ∧ q ≤ n := by
  have h1 := tke_ge x hp
  have h2 := tke_ge x h1.2
  have h3 := tke_ge x h2.2
  unfold rdB rdC at h
  repeat' split at h
  all_goals first | (cases h; done) | (cases h; omega)
