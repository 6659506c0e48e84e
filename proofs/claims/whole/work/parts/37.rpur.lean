/-! the class's reader -/
def tki (v : Nat) : Int32 := if v = 300 then -1 else if v = 301 then -2 else nI v
theorem tki_n {v : Nat} (h : v ≠ 300) (h2 : v ≠ 301) : tki v = nI v := by
  unfold tki
  rw [if_neg h, if_neg h2]
theorem tkv_lt {x : Nat → Nat} {n p : Nat} (hx : ∀ i, i < n → x i < 256) : tkv x n p < 302 := by
  unfold tkv
  split
  · rename_i h
    have := hx _ h
    split
    · split
      · omega
      · decide
    · omega
  · decide
theorem tki_D {v : Nat} (h : v < 302) : decide (48 ≤ (tki v).toInt ∧ (tki v).toInt ≤ 57) = isD v := by
  unfold isD
  by_cases h0 : v = 300
  · subst h0; decide +kernel
  · by_cases h1 : v = 301
    · subst h1; decide +kernel
    · rw [tki_n h0 h1, nI_toInt (by omega)]
      exact decide_eq_decide.mpr (by omega)
theorem tki_eq {v : Nat} (h : v < 302) {a : Nat} (ha : a < 256) : tki v = nI a ↔ v = a := by
  by_cases h0 : v = 300
  · subst h0
    constructor
    · intro q
      have h2 := nI_pos (n := a) (by omega)
      rw [← q] at h2
      exact absurd (by decide +kernel) h2
    · intro q; omega
  · by_cases h1 : v = 301
    · subst h1
      constructor
      · intro q
        have h2 := nI_pos (n := a) (by omega)
        rw [← q] at h2
        exact absurd (by decide +kernel) h2
      · intro q; omega
    · rw [tki_n h0 h1]
      exact nI_eq (by omega) (by omega)
theorem tki_m1 {v : Nat} (h : v < 302) : tki v = -1 ↔ v = 300 := by
  unfold tki
  constructor
  · intro q
    split at q
    · assumption
    · split at q
      · exact absurd q (by decide +kernel)
      · have h2 := nI_pos (n := v) (by omega)
        rw [q] at h2
        exact absurd (by decide +kernel) h2
  · intro q
    rw [if_pos q]
def RG (n : Nat) (res : Rd) (b : Bool) (at1 pl1 : Int32) (n0 n1 n2 : Nat) (k1 f1 s1 b1 l1 : Nat → Nat) : Prop := (b = true ∧ ∃ q D, res = .inr (q, D) ∧ q ≤ n ∧ at1 = nI q ∧ n0 = D 0 ∧ n1 = D 1 ∧ n2 = D 2 ∧ RN D k1 f1 s1 b1 l1) ∨ (b = false ∧ ∃ f, res = .inl f ∧ f ≤ n ∧ pl1 = nI f)
theorem RN_addC {d k f s b l : Nat → Nat} (h : RN d k f s b l) {kd u v w : Nat} (hc : d 1 < 9) (hl : d 2 ≤ 3) : RN (addC d kd u v w) (uN k (d 1) kd) (uN f (d 1) u) (uN s (d 1) v) (uN b (d 1) w) l := by
  have e1 : addC d kd u v w 1 = d 1 + 1 := by unfold addC; rw [uN_s]
  have e2 : addC d kd u v w 2 = d 2 := addC_at d kd u v w 2 (by omega) (by omega) (by omega) (by omega) (by omega)
  constructor
  · intro c hc2
    rw [e1] at hc2
    by_cases q : c = d 1
    · subst q
      rw [uN_s, uN_s, uN_s, uN_s]
      refine ⟨?_, ?_, ?_, ?_⟩
      · unfold addC; rw [uN_n (by omega), uN_n (by omega), uN_n (by omega), uN_n (by omega), uN_s]
      · unfold addC; rw [uN_n (by omega), uN_n (by omega), uN_n (by omega), uN_s]
      · unfold addC; rw [uN_n (by omega), uN_n (by omega), uN_s]
      · unfold addC; rw [uN_n (by omega), uN_s]
    · rw [uN_n q, uN_n q, uN_n q, uN_n q, addC_at d kd u v w (3 + c) (by omega) (by omega) (by omega) (by omega) (by omega), addC_at d kd u v w (12 + c) (by omega) (by omega) (by omega) (by omega) (by omega), addC_at d kd u v w (21 + c) (by omega) (by omega) (by omega) (by omega) (by omega), addC_at d kd u v w (30 + c) (by omega) (by omega) (by omega) (by omega) (by omega)]
      exact h.1 c (by omega)
  · intro l2 hl2
    rw [e2] at hl2
    rw [addC_at d kd u v w (39 + l2) (by omega) (by omega) (by omega) (by omega) (by omega)]
    exact h.2 l2 hl2
theorem RN_addL {d k f s b l : Nat → Nat} (h : RN d k f s b l) {u : Nat} (hc : d 1 ≤ 9) (hl : d 2 < 3) : RN (addL d u) k f s b (uN l (d 2) u) := by
  have e : ∀ k, k < 39 → k ≠ 2 → addL d u k = d k := fun k hk h2 => by unfold addL; rw [uN_n h2, uN_n (by omega)]
  have e2 : addL d u 2 = d 2 + 1 := by unfold addL; rw [uN_s]
  constructor
  · intro c hc2
    rw [e 1 (by omega) (by omega)] at hc2
    rw [e (3 + c) (by omega) (by omega), e (12 + c) (by omega) (by omega), e (21 + c) (by omega) (by omega), e (30 + c) (by omega) (by omega)]
    exact h.1 c hc2
  · intro l2 hl2
    rw [e2] at hl2
    by_cases q : l2 = d 2
    · subst q
      rw [uN_s]
      unfold addL
      rw [uN_n (by omega), uN_s]
    · rw [uN_n q]
      unfold addL
      rw [uN_n (by omega), uN_n (by omega)]
      exact h.2 l2 (by omega)
theorem RN_n {d k f s b l : Nat → Nat} (h : RN d k f s b l) {u : Nat} : RN (uN d 0 u) k f s b l := by
  refine ⟨fun c hc => ?_, fun l2 hl => ?_⟩
  · rw [uN_n (by omega)] at hc
    rw [uN_n (by omega), uN_n (by omega), uN_n (by omega), uN_n (by omega)]
    exact h.1 c hc
  · rw [uN_n (by omega)] at hl
    rw [uN_n (by omega)]
    exact h.2 l2 hl
theorem fr_ex {d ld : Nat → Nat} {u : Nat} (hu : u ≠ 0) : ∀ {i : Nat}, (∀ l, l < i → ld l = d (39 + l)) → frF d u i = !exB (fun l => decide (ld l = u)) i
  | 0, _ => by rw [frF, exB, decide_eq_true hu]; rfl
  | i + 1, h => by
    rw [frF, exB, fr_ex hu (fun l hl => h l (by omega)), h i (by omega)]
    cases exB (fun l => decide (ld l = u)) i
    · by_cases q : d (39 + i) = u
      · rw [decide_eq_true q, decide_eq_false (by simp [q])]; rfl
      · rw [decide_eq_false q, decide_eq_true q]; rfl
    · rfl
theorem mayB_t {k v : Nat} {d : Nat → Nat} (h : mayB k v d = true) : (v = 110 → k = 0) ∧ (v = 108 → d 2 < 3) ∧ (v ≠ 108 → v ≠ 110 → d 1 < 9) := by
  unfold mayB at h
  refine ⟨fun q => ?_, fun q => ?_, fun q q2 => ?_⟩
  · rw [if_pos q] at h; exact of_decide_eq_true h
  · rw [if_neg (by omega), if_pos q] at h; exact of_decide_eq_true h
  · rw [if_neg q2, if_neg q] at h; exact of_decide_eq_true h
theorem rdI_ok {x : Nat → Nat} {n k p q : Nat} {d D : Nat → Nat} (hT : WT d) (hp : p ≤ n) (h0 : k = 0 → d 1 = 0 ∧ d 2 = 0) (h : rdI x n k p d = .inr (q, D)) (h300 : tkv x n p ≠ 300) : WT D ∧ p < q ∧ q ≤ n := by
  unfold rdI at h
  split at h
  · cases h
  · rename_i a
    have a2 := Bool.not_eq_false _ ▸ a
    rw [Bool.and_eq_true] at a2
    have hm := mayB_t a2.2
    unfold rdS at h
    split at h
    · cases h
    · rename_i z hz
      split at h
      · rename_i h59
        cases h
        have g1 := tke_gt hp h300
        have g2 := tke_ge x hp
        have g3 := rdB_ge (q := z.1) (d' := z.2) hz g2.2
        have g4 := tke_ge x g3.2
        exact ⟨rdB_WT (q := z.1) hT (fun e => h0 (hm.1 e)) hm.2.1 hm.2.2 hz, by omega, by omega⟩
      · cases h
theorem nI_neg_no {v : Nat} (h : v < 2147483648) : ¬ ¬ 0 ≤ nI v := fun q => q (nI_pos' h)
theorem frF_z (d : Nat → Nat) : ∀ i, frF d 0 i = false
  | 0 => rfl
  | i + 1 => by rw [frF, frF_z d i]; rfl
theorem okl_f {x : Nat → Nat} {n p : Nat} {d : Nat → Nat} (h : okN x n p 1 (d 0 - 1) = false) : (okN x n p 0 (d 0 - 1) && frF d (tkv x n p - 48) (d 2)) = false := by
  unfold okN at h ⊢
  cases hD : isD (tkv x n p)
  · rfl
  · rw [hD, Bool.true_and] at h
    have h2 := of_decide_eq_false h
    rw [Bool.true_and]
    by_cases q : tkv x n p - 48 = 0
    · rw [q, frF_z, Bool.and_false]
    · rw [decide_eq_false (by omega)]
      rfl
