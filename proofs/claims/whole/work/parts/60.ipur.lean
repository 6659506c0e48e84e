/-! what holds between two calls -/
theorem q3 {α β γ : Type} {a a' : α} {b b' : β} {c c' : γ} (h : (a, b, c) = (a', b', c')) : a = a' ∧ b = b' ∧ c = c' := by cases h; exact ⟨rfl, rfl, rfl⟩
theorem q4 {α β γ δ : Type} {a a' : α} {b b' : β} {c c' : γ} {d d' : δ} (h : (a, b, c, d) = (a', b', c', d')) : a = a' ∧ b = b' ∧ c = c' ∧ d = d' := by cases h; exact ⟨rfl, rfl, rfl, rfl⟩
theorem q5 {α β γ δ ε : Type} {a a' : α} {b b' : β} {c c' : γ} {d d' : δ} {e e' : ε} (h : (a, b, c, d, e) = (a', b', c', d', e')) : a = a' ∧ b = b' ∧ c = c' ∧ d = d' ∧ e = e' := by cases h; exact ⟨rfl, rfl, rfl, rfl, rfl⟩
def PV (t s u kq d8 x el es ef : Nat → Nat) (kp : Nat → Bool) (tn un sm : Nat) : Prop := WT t ∧ (∀ k, 42 ≤ k → t k = 0) ∧ WS s ∧ (∀ k, 30 ≤ k → s k = 0) ∧ (∀ k, 42 ≤ k → d8 k = 0) ∧ tn ≤ 100 ∧ (∀ i, i < tn → x i < 256) ∧ WE t el es ef sm ∧ un ≤ 10 ∧ (∀ i, i < un → WS (fun k => u (30 * i + k))) ∧ (∀ j, j < 2 → kp j = true → WS (fun k => kq (30 * j + k)))
theorem WS_cong {s s1 : Nat → Nat} (h : WS s) (he : ∀ k, k < 30 → s1 k = s k) : WS s1 := by
  refine ⟨fun l hl => by rw [he l (by omega)]; exact h.1 l hl, fun c hc => ?_⟩
  rw [he (3 + c) (by omega), he (12 + c) (by omega), he (21 + c) (by omega)]
  exact h.2 c hc
theorem inR_c {x : Int32} {n : Nat} (h : inR x n = true) (hn : n < 2147483648) : x.toNatClampNeg < n := by
  obtain ⟨j, hj, rfl⟩ := inR_t h hn
  rw [nI_clamp (by omega)]
  exact hj
theorem PV_type {t s u kq d8 x el es ef x1 : Nat → Nat} {kp : Nat → Bool} {tn un sm n1 : Nat} {r v : Int32} (h : PV t s u kq d8 x el es ef kp tn un sm) (hq : (r, x1, n1) = tyQ x tn v) : PV t s u kq d8 x1 el es ef kp n1 un sm := by
  obtain ⟨h1, h2, h3, h4, h5, h6, h7, h8⟩ := h
  unfold tyQ at hq
  split at hq
  · obtain ⟨-, rfl, rfl⟩ := q3 hq; exact ⟨h1, h2, h3, h4, h5, h6, h7, h8⟩
  · rename_i hin
    split at hq
    · obtain ⟨-, rfl, rfl⟩ := q3 hq; exact ⟨h1, h2, h3, h4, h5, h6, h7, h8⟩
    · obtain ⟨-, rfl, rfl⟩ := q3 hq
      have hv := inR_c (x := v) (n := 256) (by simpa using hin) (by decide)
      refine ⟨h1, h2, h3, h4, h5, by omega, fun i hi => ?_, h8⟩
      by_cases q : i = tn
      · rw [q, uN_s]; exact hv
      · rw [uN_n q]; exact h7 i (by omega)
theorem PV_clear {t s u kq d8 x el es ef : Nat → Nat} {kp : Nat → Bool} {tn un sm : Nat} (h : PV t s u kq d8 x el es ef kp tn un sm) : PV t s u kq d8 x el es ef kp 0 un sm := by
  obtain ⟨h1, h2, h3, h4, h5, h6, h7, h8⟩ := h
  exact ⟨h1, h2, h3, h4, h5, by omega, fun i hi => absurd hi (by omega), h8⟩
theorem PV_note {u s : Nat → Nat} {n : Nat} (hn : n ≤ 10) (hu : ∀ i, i < n → WS (fun k => u (30 * i + k))) (hs : WS s) : nN n + 1 ≤ 10 ∧ ∀ i, i < nN n + 1 → WS (fun k => nU u s n (30 * i + k)) := by
  have hN : nN n ≤ 9 ∧ (n = 10 → nN n = 9) ∧ (n ≠ 10 → nN n = n) := by unfold nN; split <;> omega
  refine ⟨by omega, fun i hi => ?_⟩
  by_cases q : i = nN n
  · rw [q]; exact WS_cong hs (fun k hk => nU_top u s n hk)
  · have hi2 : i < nN n := by omega
    refine WS_cong (hu (i + if n = 10 then 1 else 0) ?_) (fun k hk => nU_low u s hn hi2 hk)
    by_cases q2 : n = 10
    · rw [if_pos q2]; have := hN.2.1 q2; omega
    · rw [if_neg q2]; have := hN.2.2 q2; omega
theorem WS_w {s : Nat → Nat} (h : WS s) {l v : Nat} (hl : l < 3) (hv : v < 65536) : WS (uN s l v) := by
  refine ⟨fun a ha => ?_, fun c hc => ?_⟩
  · by_cases q : a = l
    · rw [q, uN_s]; exact hv
    · rw [uN_n q]; exact h.1 a ha
  · rw [uN_n (by omega), uN_n (by omega), uN_n (by omega)]; exact h.2 c hc
theorem WS_k {s : Nat → Nat} (h : WS s) {c k b : Nat} (hc : c < 9) (hk : k ≤ 4) (hb : b < 4) (hkb : 2 ≤ k → b = 0) : WS (uN (uN s (3 + c) k) (12 + c) b) := by
  refine ⟨fun a ha => ?_, fun a ha => ?_⟩
  · rw [uN_n (by omega), uN_n (by omega)]; exact h.1 a ha
  · have h2 := h.2 a ha
    by_cases q : a = c
    · subst q
      rw [uN_s, uN_n (show 3 + a ≠ 12 + a by omega), uN_s, uN_n (show 21 + a ≠ 12 + a by omega), uN_n (show 21 + a ≠ 3 + a by omega)]
      exact ⟨hk, hb, h2.2.2.1, hkb⟩
    · repeat rw [uN_n (by omega)]
      exact h2
theorem far_u {s : Nat → Nat} {a v : Nat} (ha : a < 30) (h : ∀ k, 30 ≤ k → s k = 0) : ∀ k, 30 ≤ k → uN s a v k = 0 := fun k hk => by rw [uN_n (by omega)]; exact h k hk
theorem PV_wi {t s u kq d8 x el es ef s1 u1 : Nat → Nat} {kp : Nat → Bool} {tn un sm n1 : Nat} {r l v : Int32} (h : PV t s u kq d8 x el es ef kp tn un sm) (hq : (r, s1, u1, n1) = wiQ t s u un l v) : PV t s1 u1 kq d8 x el es ef kp tn n1 sm := by
  obtain ⟨h1, h2, h3, h4, h5, h6, h7, h8, h9, h10, h11⟩ := h
  have hn := h1.n
  unfold wiQ at hq
  split at hq
  · obtain ⟨-, rfl, rfl, rfl⟩ := q4 hq; exact ⟨h1, h2, h3, h4, h5, h6, h7, h8, h9, h10, h11⟩
  · rename_i hin
    obtain ⟨-, rfl, rfl, rfl⟩ := q4 hq
    simp only [Bool.not_eq_false, Bool.and_eq_true] at hin
    have a := inR_c hin.1 (by omega)
    have b := inR_c hin.2 (by decide)
    have d := PV_note h9 h10 h3
    exact ⟨h1, h2, WS_w h3 (by omega) b, far_u (by omega) h4, h5, h6, h7, h8, d.1, d.2, h11⟩
theorem PV_cu {t s u kq d8 x el es ef s1 u1 : Nat → Nat} {kp : Nat → Bool} {tn un sm n1 : Nat} {r c k b : Int32} (h : PV t s u kq d8 x el es ef kp tn un sm) (hq : (r, s1, u1, n1) = cuQ t s u un c k b) : PV t s1 u1 kq d8 x el es ef kp tn n1 sm := by
  obtain ⟨h1, h2, h3, h4, h5, h6, h7, h8, h9, h10, h11⟩ := h
  have hn := h1.n
  unfold cuQ at hq
  by_cases hin : (inR c (t 1) && inR k 5 && inR b (if k.toInt < 2 then 4 else 1)) = false
  · rw [if_pos hin] at hq
    obtain ⟨-, rfl, rfl, rfl⟩ := q4 hq; exact ⟨h1, h2, h3, h4, h5, h6, h7, h8, h9, h10, h11⟩
  · rw [if_neg hin] at hq
    split at hq
    · obtain ⟨-, rfl, rfl, rfl⟩ := q4 hq; exact ⟨h1, h2, h3, h4, h5, h6, h7, h8, h9, h10, h11⟩
    · obtain ⟨-, rfl, rfl, rfl⟩ := q4 hq
      simp only [Bool.not_eq_false, Bool.and_eq_true] at hin
      have a := inR_c hin.1.1 (by omega)
      obtain ⟨j, hj, rfl⟩ := inR_t hin.1.2 (by decide)
      have hb := hin.2
      rw [nI_toInt (by omega)] at hb
      rw [nI_clamp (by omega)]
      have d := PV_note h9 h10 h3
      have hb2 : b.toNatClampNeg < 4 ∧ (2 ≤ j → b.toNatClampNeg = 0) := by
        by_cases q : (j : Int) < 2
        · rw [if_pos q] at hb
          have := inR_c hb (by decide)
          exact ⟨this, fun z => by omega⟩
        · rw [if_neg q] at hb
          have := inR_c hb (by decide)
          exact ⟨by omega, fun z => by omega⟩
      exact ⟨h1, h2, WS_k h3 (by omega) (by omega) hb2.1 hb2.2, far_u (by omega) (far_u (by omega) h4), h5, h6, h7, h8, d.1, d.2, h11⟩
theorem PV_sk {t s u kq d8 x el es ef s1 u1 : Nat → Nat} {kp : Nat → Bool} {tn un sm n1 : Nat} {r c v : Int32} (h : PV t s u kq d8 x el es ef kp tn un sm) (hq : (r, s1, u1, n1) = skQ t s u un c v) : PV t s1 u1 kq d8 x el es ef kp tn n1 sm := by
  obtain ⟨h1, h2, h3, h4, h5, h6, h7, h8, h9, h10, h11⟩ := h
  have hn := h1.n
  unfold skQ at hq
  split at hq
  · obtain ⟨-, rfl, rfl, rfl⟩ := q4 hq; exact ⟨h1, h2, h3, h4, h5, h6, h7, h8, h9, h10, h11⟩
  · rename_i hin
    split at hq
    · obtain ⟨-, rfl, rfl, rfl⟩ := q4 hq; exact ⟨h1, h2, h3, h4, h5, h6, h7, h8, h9, h10, h11⟩
    · obtain ⟨-, rfl, rfl, rfl⟩ := q4 hq
      simp only [Bool.not_eq_false, Bool.and_eq_true] at hin
      have a := inR_c hin.1 (by omega)
      have b := inR_c hin.2 (by decide)
      have d := PV_note h9 h10 h3
      exact ⟨h1, h2, WS_st h3 (by omega) b, far_u (by omega) h4, h5, h6, h7, h8, d.1, d.2, h11⟩
theorem snp_far {u s : Nat → Nat} {b : Nat} (h : ∀ k, 30 ≤ k → s k = 0) : ∀ k, 30 ≤ k → snp u b s k = 0 := fun k hk => by unfold snp; rw [flN_o (by omega)]; exact h k hk
theorem snp_in {u s : Nat → Nat} {b : Nat} : ∀ k, k < 30 → snp u b s k = u (b + k) := fun k hk => by unfold snp; rw [flN_i (Nat.zero_le _) (by omega), Nat.sub_zero]
theorem PV_un {t s u kq d8 x el es ef s1 : Nat → Nat} {kp : Nat → Bool} {tn un sm n1 : Nat} {r : Int32} (h : PV t s u kq d8 x el es ef kp tn un sm) (hq : (r, s1, n1) = unQ s u un) : PV t s1 u kq d8 x el es ef kp tn n1 sm := by
  obtain ⟨h1, h2, h3, h4, h5, h6, h7, h8, h9, h10, h11⟩ := h
  unfold unQ at hq
  split at hq
  · obtain ⟨-, rfl, rfl⟩ := q3 hq; exact ⟨h1, h2, h3, h4, h5, h6, h7, h8, h9, h10, h11⟩
  · obtain ⟨-, rfl, rfl⟩ := q3 hq
    exact ⟨h1, h2, WS_cong (h10 (un - 1) (by omega)) snp_in, snp_far h4, h5, h6, h7, h8, by omega, fun i hi => h10 i (by omega), h11⟩
theorem PV_se {t s u kq d8 x el es ef l1 e1 f1 : Nat → Nat} {kp : Nat → Bool} {tn un sm n1 : Nat} {r l v f : Int32} (h : PV t s u kq d8 x el es ef kp tn un sm) (hq : (r, l1, e1, f1, n1) = seQ t el es ef sm l v f) : PV t s u kq d8 x l1 e1 f1 kp tn un n1 := by
  obtain ⟨h1, h2, h3, h4, h5, h6, h7, h8, h9, h10, h11⟩ := h
  have hn := h1.n
  unfold seQ at hq
  split at hq
  · obtain ⟨-, rfl, rfl, rfl, rfl⟩ := q5 hq; exact ⟨h1, h2, h3, h4, h5, h6, h7, h8, h9, h10, h11⟩
  · rename_i hin
    split at hq
    · obtain ⟨-, rfl, rfl, rfl, rfl⟩ := q5 hq; exact ⟨h1, h2, h3, h4, h5, h6, h7, h8, h9, h10, h11⟩
    · obtain ⟨-, rfl, rfl, rfl, rfl⟩ := q5 hq
      simp only [Bool.not_eq_false, Bool.and_eq_true] at hin
      have a := inR_c hin.1.1 (by omega)
      have b := inR_c hin.1.2 (by decide)
      have d := inR_c hin.2 (by decide)
      refine ⟨h1, h2, h3, h4, h5, h6, h7, ⟨by have := h8.1; omega, fun i hi => ?_⟩, h9, h10, h11⟩
      by_cases q : i = sm
      · rw [q, uN_s, uN_s, uN_s]; exact ⟨a, b, d⟩
      · rw [uN_n q, uN_n q, uN_n q]; exact h8.2 i (by omega)
theorem PV_fo {t s u kq d8 x el es ef : Nat → Nat} {kp : Nat → Bool} {tn un sm : Nat} (h : PV t s u kq d8 x el es ef kp tn un sm) : PV t s u kq d8 x el es ef kp tn un 0 := by
  obtain ⟨h1, h2, h3, h4, h5, h6, h7, h8, h9, h10, h11⟩ := h
  exact ⟨h1, h2, h3, h4, h5, h6, h7, ⟨by omega, fun i hi => absurd hi (by omega)⟩, h9, h10, h11⟩
theorem PV_kp {t s u kq d8 x el es ef k1 : Nat → Nat} {kp i1 : Nat → Bool} {tn un sm : Nat} {r v : Int32} (h : PV t s u kq d8 x el es ef kp tn un sm) (hq : (r, k1, i1) = kpQ t s kq kp v) : PV t s u k1 d8 x el es ef i1 tn un sm := by
  obtain ⟨h1, h2, h3, h4, h5, h6, h7, h8, h9, h10, h11⟩ := h
  unfold kpQ at hq
  split at hq
  · obtain ⟨-, rfl, rfl⟩ := q3 hq; exact ⟨h1, h2, h3, h4, h5, h6, h7, h8, h9, h10, h11⟩
  · rename_i hin
    obtain ⟨-, rfl, rfl⟩ := q3 hq
    have a := inR_c (x := v) (n := 2) (by simpa using hin) (by decide)
    refine ⟨h1, h2, h3, h4, h5, h6, h7, h8, h9, h10, fun j hj hk => ?_⟩
    generalize v.toNatClampNeg = q at a hk ⊢
    by_cases hjq : j = q
    · rw [hjq]
      refine WS_cong h3 (fun k hk => ?_)
      show flN kq s (30 * q) 30 (30 * q + k) = s k
      rw [flN_i (by omega) (by omega)]
      congr 1
      omega
    · rw [uB_n hjq] at hk
      refine WS_cong (h11 j hj hk) (fun k hk => ?_)
      show flN kq s (30 * q) 30 (30 * j + k) = kq (30 * j + k)
      rw [flN_o (by omega)]
theorem PV_bk {t s u kq d8 x el es ef s1 : Nat → Nat} {kp : Nat → Bool} {tn un sm n1 : Nat} {r v : Int32} (h : PV t s u kq d8 x el es ef kp tn un sm) (hq : (r, s1, n1) = bkQ t s kq kp un v) : PV t s1 u kq d8 x el es ef kp tn n1 sm := by
  obtain ⟨h1, h2, h3, h4, h5, h6, h7, h8, h9, h10, h11⟩ := h
  unfold bkQ at hq
  split at hq
  · obtain ⟨-, rfl, rfl⟩ := q3 hq; exact ⟨h1, h2, h3, h4, h5, h6, h7, h8, h9, h10, h11⟩
  · rename_i hin
    split at hq
    · obtain ⟨-, rfl, rfl⟩ := q3 hq; exact ⟨h1, h2, h3, h4, h5, h6, h7, h8, h9, h10, h11⟩
    · rename_i hk
      obtain ⟨-, rfl, rfl⟩ := q3 hq
      have a := inR_c (x := v) (n := 2) (by simpa using hin) (by decide)
      exact ⟨h1, h2, WS_cong (h11 _ a (by simpa using hk)) snp_in, snp_far h4, h5, h6, h7, h8, by omega, fun i hi => absurd hi (by omega), h11⟩
theorem WS_sw {t : Nat → Nat} (hT : WT t) : WS (swN t) := by
  have h1 := hT.n
  unfold swN
  exact WS_fl (fun l => fedN_lt _ _ _) h1.2.2.2
theorem sw_far {t : Nat → Nat} (hT : WT t) : ∀ k, 30 ≤ k → swN t k = 0 := by
  intro k hk
  have h1 := hT.n
  unfold swN
  rw [flN_o (by omega)]
  unfold s0N
  rw [if_neg (by omega)]
theorem PV_net {t s u kq d8 x el es ef t1 s1 d1 : Nat → Nat} {kp i1 : Nat → Bool} {tn un sm n1 u1 e1 : Nat} {r : Int32} (h : PV t s u kq d8 x el es ef kp tn un sm) (hq : (∀ k, 42 ≤ k → d1 k = 0) ∧ ((∃ f, f ≤ tn ∧ rdT x tn = .inl f ∧ r = -10 - nI f ∧ t1 = t ∧ s1 = s ∧ n1 = tn ∧ u1 = un ∧ e1 = sm ∧ i1 = kp) ∨ (∃ k, k ≤ 100 ∧ rdT x tn = .inr (k, t1) ∧ r = nI k ∧ WT t1 ∧ (∀ k, 42 ≤ k → t1 k = 0) ∧ s1 = swN t1 ∧ n1 = 0 ∧ u1 = 0 ∧ e1 = 0 ∧ i1 = uB (uB kp 0 false) 1 false))) : PV t1 s1 u kq d1 x el es ef i1 n1 u1 e1 := by
  obtain ⟨h1, h2, h3, h4, h5, h6, h7, h8, h9, h10, h11⟩ := h
  obtain ⟨hd, ⟨f, -, -, -, rfl, rfl, rfl, rfl, rfl, rfl⟩ | ⟨k, -, -, -, hT, ht, rfl, rfl, rfl, rfl, rfl⟩⟩ := hq
  · exact ⟨h1, h2, h3, h4, hd, h6, h7, h8, h9, h10, h11⟩
  · refine ⟨hT, ht, WS_sw hT, sw_far hT, hd, by omega, fun i hi => absurd hi (by omega), ⟨by omega, fun i hi => absurd hi (by omega)⟩, by omega, fun i hi => absurd hi (by omega), fun j hj hk => ?_⟩
    rcases (show j = 0 ∨ j = 1 by omega) with q | q
    · rw [q, uB_n (by decide), uB_s] at hk; cases hk
    · rw [q, uB_s] at hk; cases hk
/-- both sides read alike -/
theorem net_eq {t s x t1 s1 t2 s2 : Nat → Nat} {kp i1 i2 : Nat → Bool} {tn un sm n1 u1 e1 n2 u2 e2 : Nat} {r1 r2 : Int32} (a : (∃ f, f ≤ tn ∧ rdT x tn = .inl f ∧ r1 = -10 - nI f ∧ t1 = t ∧ s1 = s ∧ n1 = tn ∧ u1 = un ∧ e1 = sm ∧ i1 = kp) ∨ (∃ k, k ≤ 100 ∧ rdT x tn = .inr (k, t1) ∧ r1 = nI k ∧ WT t1 ∧ s1 = swN t1 ∧ n1 = 0 ∧ u1 = 0 ∧ e1 = 0 ∧ i1 = uB (uB kp 0 false) 1 false)) (b : (∃ f, f ≤ tn ∧ rdT x tn = .inl f ∧ r2 = -10 - nI f ∧ t2 = t ∧ s2 = s ∧ n2 = tn ∧ u2 = un ∧ e2 = sm ∧ i2 = kp) ∨ (∃ k, k ≤ 100 ∧ rdT x tn = .inr (k, t2) ∧ r2 = nI k ∧ WT t2 ∧ (∀ k, 42 ≤ k → t2 k = 0) ∧ s2 = swN t2 ∧ n2 = 0 ∧ u2 = 0 ∧ e2 = 0 ∧ i2 = uB (uB kp 0 false) 1 false)) : r1 = r2 ∧ t1 = t2 ∧ s1 = s2 ∧ n1 = n2 ∧ u1 = u2 ∧ e1 = e2 ∧ i1 = i2 ∧ (i2 = kp ∧ s2 = s ∧ u2 = un ∨ u2 = 0 ∧ i2 0 = false ∧ i2 1 = false) := by
  rcases a with ⟨f, -, a1, rfl, rfl, rfl, rfl, rfl, rfl, rfl⟩ | ⟨k, -, a1, rfl, -, rfl, rfl, rfl, rfl, rfl⟩
  · rcases b with ⟨f', -, b1, rfl, rfl, rfl, rfl, rfl, rfl, rfl⟩ | ⟨k', -, b1, -⟩
    · rw [a1] at b1; cases b1; exact ⟨rfl, rfl, rfl, rfl, rfl, rfl, rfl, Or.inl ⟨rfl, rfl, rfl⟩⟩
    · rw [a1] at b1; cases b1
  · rcases b with ⟨f', -, b1, -⟩ | ⟨k', -, b1, rfl, -, -, rfl, rfl, rfl, rfl, rfl⟩
    · rw [a1] at b1; cases b1
    · rw [a1] at b1; cases b1; exact ⟨rfl, rfl, rfl, rfl, rfl, rfl, rfl, Or.inr ⟨rfl, by rw [uB_n (by decide), uB_s], uB_s⟩⟩
theorem KI_f {kq wi0 cu0 cb0 sk0 wi1 cu1 cb1 sk1 : Nat → Nat} {ik : Nat → Bool} (h0 : ik 0 = false) (h1 : ik 1 = false) : KI kq ik wi0 cu0 cb0 sk0 wi1 cu1 cb1 sk1 := ⟨fun q => absurd (h0.symm.trans q) (by decide), fun q => absurd (h1.symm.trans q) (by decide)⟩
theorem PV_0 {u kq : Nat → Nat} : PV d0N (swN d0N) u kq d0N (fun _ => 0) (fun _ => 0) (fun _ => 0) (fun _ => 0) (fun _ => false) 0 0 0 := ⟨WT_d0, d0_far, WS_sw WT_d0, sw_far WT_d0, d0_far, by omega, fun i hi => absurd hi (by omega), ⟨by omega, fun i hi => absurd hi (by omega)⟩, by omega, fun i hi => absurd hi (by omega), fun j _ q => by cases q⟩
theorem sw_d0 : swN d0N = s0N := by
  unfold swN
  show flN s0N _ 0 0 = s0N
  exact flN_0 _ _ _
theorem RN_0 {kd fi se sb ld : Nat → Nat} : RN d0N kd fi se sb ld := ⟨fun c hc => absurd hc (by simp [d0N]), fun l hl => absurd hl (by simp [d0N])⟩
