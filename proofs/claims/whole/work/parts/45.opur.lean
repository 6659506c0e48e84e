/-! flash: the states between two -/
def fl_t (st a b : Nat) : Bool := !decide (anN (st ^^^ a) (a ^^^ b) = 0) || decide (st = a) || decide (st = b) || (decide (1 ≤ st ^^^ a) && decide (st ^^^ a < a ^^^ b) && decide (a ^^^ (st ^^^ a) = st))
theorem fl_d0 : ∀ st, st < 16 → ∀ a, a < 16 → ∀ b, b < 16 → fl_t st a b = true := by decide +kernel
theorem fl_d1 : ∀ st, st < 16 → ∀ a, a < 16 → ∀ b, b < 16 → anN (st ^^^ a) (a ^^^ b) = 0 → st = a ∨ st = b ∨ (1 ≤ st ^^^ a ∧ st ^^^ a < a ^^^ b ∧ a ^^^ (st ^^^ a) = st) := by
  intro st h1 a h2 b h3 h
  have h4 := fl_d0 st h1 a h2 b h3
  unfold fl_t at h4
  rw [decide_eq_true h] at h4
  simp only [Bool.not_true, Bool.false_or, Bool.or_eq_true, Bool.and_eq_true, decide_eq_true_eq, or_assoc, and_assoc] at h4
  exact h4
theorem fl_d2 : ∀ k, k < 16 → ∀ a, a < 16 → a ^^^ k < 16 ∧ (a ^^^ k) ^^^ a = k := by decide +kernel
theorem fl_eq {F a b : Nat} (ha : a < 16) (hb : b < 16) (h1 : F.testBit a = false) (h2 : F.testBit b = false) : exB (fun st => decide (anN (st ^^^ a) (a ^^^ b) = 0) && F.testBit st) 16 = exB (fun k => decide (1 ≤ k) && (decide (anN k (a ^^^ b) = 0) && F.testBit (a ^^^ k))) (a ^^^ b) := by
  rw [Bool.eq_iff_iff, exB_t, exB_t]
  constructor
  · rintro ⟨st, hst, h⟩
    rw [Bool.and_eq_true] at h
    have hz := of_decide_eq_true h.1
    rcases fl_d1 st hst a ha b hb hz with q | q | ⟨q1, q2, q3⟩
    · rw [q, h1] at h; exact absurd h.2 (by decide)
    · rw [q, h2] at h; exact absurd h.2 (by decide)
    · exact ⟨st ^^^ a, q2, by rw [decide_eq_true q1, decide_eq_true hz, q3, h.2]; rfl⟩
  · rintro ⟨k, hk, h⟩
    rw [Bool.and_eq_true, Bool.and_eq_true] at h
    have hab : a ^^^ b < 2 ^ 4 := Nat.xor_lt_two_pow ha hb
    have hk16 : k < 16 := by omega
    have h3 := fl_d2 k hk16 a ha
    exact ⟨a ^^^ k, h3.1, by rw [h3.2, h.2.1, h.2.2]; rfl⟩
/-! one contact laid otherwise -/
theorem LDn_one {t s s1 sh sh1 : Nat → Nat} {fo ba fo1 ba1 : Nat → Bool} {n c : Nat} (hn : n ≤ 9) (h : LDn t s sh fo ba n) (h1 : LD1 t c (s1 (3 + c)) (s1 (12 + c)) (s1 (21 + c)) (sh1 c) (fo1 c) (ba1 c)) (h2 : ∀ a, a ≠ c → sh1 a = sh a ∧ fo1 a = fo a ∧ ba1 a = ba a) (hs : ∀ a, a < 9 → a ≠ c → s1 (3 + a) = s (3 + a) ∧ s1 (12 + a) = s (12 + a) ∧ s1 (21 + a) = s (21 + a)) : LDn t s1 sh1 fo1 ba1 n := by
  intro a ha
  by_cases q : a = c
  · rw [q]; exact h1
  · have h3 := h2 a q
    have h4 := hs a (by omega) q
    rw [h3.1, h3.2.1, h3.2.2, h4.1, h4.2.1, h4.2.2]
    exact h a ha
theorem st_one {s : Nat → Nat} {c v : Nat} (hc : c < 9) : ∀ a, a < 9 → a ≠ c → uN s (21 + c) v (3 + a) = s (3 + a) ∧ uN s (21 + c) v (12 + a) = s (12 + a) ∧ uN s (21 + c) v (21 + a) = s (21 + a) := fun a ha q => ⟨uN_n (by omega), uN_n (by omega), uN_n (by omega)⟩
theorem cu_one {s : Nat → Nat} {c k b : Nat} (hc : c < 9) : ∀ a, a < 9 → a ≠ c → uN (uN s (3 + c) k) (12 + c) b (3 + a) = s (3 + a) ∧ uN (uN s (3 + c) k) (12 + c) b (12 + a) = s (12 + a) ∧ uN (uN s (3 + c) k) (12 + c) b (21 + a) = s (21 + a) := fun a ha q => ⟨by rw [uN_n (by omega), uN_n (by omega)], by rw [uN_n (by omega), uN_n (by omega)], by rw [uN_n (by omega), uN_n (by omega)]⟩
/-! parting: up over all sets, down over all sets -/
theorem pc_n : ∀ n, n < 10 → ∀ j, j < 2 ^ n → pcN j ≤ n := by decide +kernel
def paC (f : Nat → Bool) (n : Nat) : Nat → Nat × Nat
  | 0 => (2 ^ n - 1, n + 1)
  | i + 1 => if pcN i < (paC f n i).2 ∧ f i = false then (i, pcN i) else paC f n i
theorem paC_ok {f : Nat → Bool} {n : Nat} (hn : n < 10) : ∀ i, i ≤ 2 ^ n → (((paC f n i).2 = n + 1 ∧ (paC f n i).1 = 2 ^ n - 1 ∧ ∀ j, j < i → f j = true) ∨ ((paC f n i).1 < i ∧ f (paC f n i).1 = false ∧ (paC f n i).2 = pcN (paC f n i).1 ∧ ∀ j, j < i → f j = false → pcN (paC f n i).1 < pcN j ∨ (pcN (paC f n i).1 = pcN j ∧ (paC f n i).1 ≤ j)))
  | 0, _ => Or.inl ⟨rfl, rfl, fun j hj => absurd hj (by omega)⟩
  | i + 1, hi => by
    have ih := paC_ok (f := f) hn i (by omega)
    have hp := pc_n n hn i (by omega)
    rw [paC]
    by_cases hf : f i = false
    · rcases ih with ⟨h1, h2, h3⟩ | ⟨h1, h2, h3, h4⟩
      · rw [if_pos ⟨by omega, hf⟩]
        refine Or.inr ⟨by dsimp only; omega, hf, rfl, fun j hj hj2 => ?_⟩
        by_cases q : j = i
        · right; rw [q]; exact ⟨rfl, Nat.le_refl _⟩
        · have := h3 j (by omega); rw [hj2] at this; cases this
      · by_cases hl : pcN i < (paC f n i).2
        · rw [if_pos ⟨hl, hf⟩]
          refine Or.inr ⟨by dsimp only; omega, hf, rfl, fun j hj hj2 => ?_⟩
          by_cases q : j = i
          · right; rw [q]; exact ⟨rfl, Nat.le_refl _⟩
          · left
            dsimp only
            have := h4 j (by omega) hj2
            omega
        · rw [if_neg (fun q => hl q.1)]
          refine Or.inr ⟨by omega, h2, h3, fun j hj hj2 => ?_⟩
          by_cases q : j = i
          · rw [q]; omega
          · exact h4 j (by omega) hj2
    · rw [if_neg (fun q => hf q.2)]
      have hft : f i = true := by cases hq : f i; exact absurd hq hf; rfl
      rcases ih with ⟨h1, h2, h3⟩ | ⟨h1, h2, h3, h4⟩
      · refine Or.inl ⟨h1, h2, fun j hj => ?_⟩
        by_cases q : j = i
        · rw [q]; exact hft
        · exact h3 j (by omega)
      · refine Or.inr ⟨by omega, h2, h3, fun j hj hj2 => ?_⟩
        by_cases q : j = i
        · rw [q, hft] at hj2; cases hj2
        · exact h4 j (by omega) hj2
theorem prD_ok {t s : Nat → Nat} {l st : Nat} (h0 : fedB t s l st (2 ^ t 1 - 1) = false) : ∀ i, i ≤ 2 ^ t 1 → fedB t s l st (prD t s l st i) = false ∧ ∀ j, 2 ^ t 1 ≤ j + i → j < 2 ^ t 1 → fedB t s l st j = false → pcN (prD t s l st i) < pcN j ∨ (pcN (prD t s l st i) = pcN j ∧ prD t s l st i ≤ j)
  | 0, _ => ⟨h0, fun j h1 h2 _ => absurd h1 (by omega)⟩
  | i + 1, hi => by
    have ih := prD_ok h0 i (by omega)
    rw [prD]
    by_cases hc : pcN (2 ^ t 1 - 1 - i) ≤ pcN (prD t s l st i) ∧ fedB t s l st (2 ^ t 1 - 1 - i) = false
    · rw [if_pos hc]
      refine ⟨hc.2, fun j h1 h2 h3 => ?_⟩
      by_cases q : j = 2 ^ t 1 - 1 - i
      · right; rw [q]; exact ⟨rfl, Nat.le_refl _⟩
      · have := ih.2 j (by omega) h2 h3
        omega
    · rw [if_neg hc]
      refine ⟨ih.1, fun j h1 h2 h3 => ?_⟩
      by_cases q : j = 2 ^ t 1 - 1 - i
      · left
        apply Classical.byContradiction
        intro q2
        apply hc
        rw [q] at q2 h3
        exact ⟨by omega, h3⟩
      · exact ih.2 j (by omega) h2 h3
theorem lvS_all {t s : Nat → Nat} {st wo : Nat} : ∀ {k set : Nat}, (∀ c, c < k → wo.testBit c = true) → lvS t s st wo k set = set
  | 0, _, _ => rfl
  | k + 1, set, h => by
    rw [lvS, lvS_all (fun c hc => h c (by omega))]
    unfold lvC
    rw [h k (by omega)]
    rfl
theorem lvR_all {t s : Nat → Nat} {st : Nat} : ∀ r, lvR t s st (2 ^ t 1 - 1) r = 1
  | 0 => rfl
  | r + 1 => by
    rw [lvR, lvR_all r]
    exact lvS_all (fun c hc => by rw [Nat.testBit_two_pow_sub_one]; exact decide_eq_true hc)
theorem fed_all {t s : Nat → Nat} {l st : Nat} (hT : WT t) (hl : l < t 2) : fedB t s l st (2 ^ t 1 - 1) = false := by
  have h1 := hT.n
  have h2 := hT.l hl
  unfold fedB
  rw [lvR_all]
  have : ∀ q, q < 7 → 0 < q → (1 : Nat).testBit q = false := by decide +kernel
  exact this _ (by omega) h2.1
theorem pa_eq {t s : Nat → Nat} {l st : Nat} (hT : WT t) (hl : l < t 2) : (paC (fun w => fedB t s l st w) (t 1) (2 ^ t 1)).1 = prD t s l st (2 ^ t 1) := by
  have h1 := hT.n
  have h0 := fed_all (s := s) (st := st) hT hl
  have hp := Nat.two_pow_pos (t 1)
  have a := prD_ok h0 (2 ^ t 1) (Nat.le_refl _)
  have al := prD_lt t s l st (2 ^ t 1)
  rcases paC_ok (f := fun w => fedB t s l st w) (n := t 1) (by omega) (2 ^ t 1) (Nat.le_refl _) with ⟨_, _, h⟩ | ⟨b1, b2, _, b4⟩
  · have h3 : fedB t s l st (2 ^ t 1 - 1) = true := h (2 ^ t 1 - 1) (by omega)
    rw [h0] at h3; cases h3
  · have c1 := a.2 _ (by omega) b1 b2
    have c2 := b4 _ al a.1
    omega
/-! odds: what a set weighs, the sum of all weights -/
theorem pcF_hi {a n : Nat} (h : a < 2 ^ n) : ∀ m, pcF a (n + m) = pcF a n
  | 0 => rfl
  | m + 1 => by
    rw [← Nat.add_assoc, pcF, pcF_hi h m, lt_bits h (by omega)]
    rfl
theorem pcN_n {a n : Nat} (hn : n ≤ 9) (h : a < 2 ^ n) : pcN a = pcF a n := by
  unfold pcN
  rw [show 9 = n + (9 - n) by omega]
  exact pcF_hi h _
theorem ptN_pc (x set : Nat) : ∀ c, ptN x set c = x ^ pcF set c * (10 - x) ^ (c - pcF set c)
  | 0 => rfl
  | c + 1 => by
    have h := pcF_le set c
    rw [ptN, ptN_pc x set c, pcF]
    cases hb : set.testBit c
    · rw [if_neg (by decide), Bool.toNat_false, Nat.add_zero, show c + 1 - pcF set c = (c - pcF set c) + 1 by omega, Nat.pow_succ, Nat.mul_assoc]
    · rw [if_pos rfl, Bool.toNat_true, show c + 1 - (pcF set c + 1) = c - pcF set c by omega, Nat.pow_succ, Nat.mul_right_comm]
theorem ptN_w {x set n : Nat} (hn : n ≤ 9) (h : set < 2 ^ n) : x ^ pcN set * (10 - x) ^ (n - pcN set) = ptN x set n := by
  rw [ptN_pc, pcN_n hn h]
def smN (x n : Nat) : Nat → Nat
  | 0 => 0
  | i + 1 => smN x n i + ptN x i n
theorem ptN_cong {x a b : Nat} : ∀ {c : Nat}, (∀ i, i < c → a.testBit i = b.testBit i) → ptN x a c = ptN x b c
  | 0, _ => rfl
  | c + 1, h => by rw [ptN, ptN, ptN_cong (fun i hi => h i (by omega)), h c (by omega)]
theorem smN_lo (x n : Nat) : ∀ k, k ≤ 2 ^ n → smN x (n + 1) k = smN x n k * (10 - x)
  | 0, _ => by simp [smN]
  | k + 1, h => by
    rw [smN, smN, smN_lo x n k (by omega), Nat.add_mul, ptN, lt_bits (show k < 2 ^ n by omega) (Nat.le_refl n), if_neg (by decide)]
theorem smN_hi (x n : Nat) : ∀ k, k ≤ 2 ^ n → smN x (n + 1) (2 ^ n + k) = smN x (n + 1) (2 ^ n) + smN x n k * x
  | 0, _ => by simp [smN]
  | k + 1, h => by
    rw [← Nat.add_assoc, smN, smN_hi x n k (by omega), smN.eq_2 x n k, Nat.add_mul, Nat.add_assoc]
    congr 2
    rw [ptN, Nat.testBit_two_pow_add_eq, lt_bits (show k < 2 ^ n by omega) (Nat.le_refl n), if_pos (by decide)]
    congr 1
    exact ptN_cong (fun i hi => Nat.testBit_two_pow_add_gt hi k)
theorem smN_all {x : Nat} (hx : x ≤ 10) : ∀ n, smN x n (2 ^ n) = 10 ^ n
  | 0 => rfl
  | n + 1 => by
    rw [Nat.pow_succ, Nat.mul_two, smN_hi x n (2 ^ n) (Nat.le_refl _), smN_lo x n (2 ^ n) (Nat.le_refl _), smN_all hx n, ← Nat.mul_add, Nat.pow_succ]
    congr 1
    omega
theorem smN_mono (x n : Nat) {i k : Nat} (h : i ≤ k) : smN x n i ≤ smN x n k := by
  induction k with
  | zero => rw [show i = 0 by omega]; exact Nat.le_refl _
  | succ k ih =>
    rcases Nat.lt_or_ge i (k + 1) with q | q
    · rw [smN]; have := ih (by omega); omega
    · rw [show i = k + 1 by omega]; exact Nat.le_refl _
theorem upN_sm (t s : Nat → Nat) (x l st : Nat) : ∀ i, upN t s x l st i ≤ smN x (t 1) i
  | 0 => Nat.le_refl _
  | i + 1 => by
    have h := upN_sm t s x l st i
    rw [upN, smN]
    split <;> omega
theorem upN_10 {t s : Nat → Nat} {x l st i : Nat} (hx : x ≤ 10) (hi : i ≤ 2 ^ t 1) : upN t s x l st i ≤ 10 ^ t 1 := by
  have h1 := upN_sm t s x l st i
  have h2 := smN_mono x (t 1) hi
  rw [smN_all hx] at h2
  omega
/-! Euclid's way, 64 steps at most -/
theorem eu_half {a b : Nat} (hb : 0 < b) (h : b ≤ a) : 2 * (a % b) ≤ a := by
  have h1 := Nat.mod_lt a hb
  have h2 := Nat.div_add_mod a b
  have h3 : 1 ≤ a / b := (Nat.one_le_div_iff hb).mpr h
  have h4 : b * 1 ≤ b * (a / b) := Nat.mul_le_mul_left b h3
  omega
def EU (u v i a b : Nat) : Prop := (i = 0 ∧ a = u ∧ b = v) ∨ (1 ≤ i ∧ b ≤ a ∧ 1 ≤ a ∧ a * b * 2 ^ (i - 1) ≤ u * v ∧ Nat.gcd a b = Nat.gcd u v ∧ a ≤ v)
theorem EU_s {u v i a b : Nat} (h : EU u v i a b) (hb : b ≠ 0) : EU u v (i + 1) b (a % b) := by
  have hb0 : 0 < b := Nat.pos_of_ne_zero hb
  have hm := Nat.mod_lt a hb0
  have hg : Nat.gcd b (a % b) = Nat.gcd a b := by rw [Nat.gcd_comm b, ← Nat.gcd_rec, Nat.gcd_comm]
  rcases h with ⟨h1, h2, h3⟩ | ⟨h1, h2, h3, h4, h5, h6⟩
  · subst h1 h2 h3
    refine Or.inr ⟨Nat.le_refl _, by omega, by omega, ?_, hg, Nat.le_refl _⟩
    rw [show 0 + 1 - 1 = 0 from rfl, Nat.pow_zero, Nat.mul_one, Nat.mul_comm]
    exact Nat.mul_le_mul_right _ (Nat.mod_le _ _)
  · refine Or.inr ⟨by omega, by omega, by omega, ?_, hg.trans h5, by omega⟩
    refine Nat.le_trans ?_ h4
    rw [show i + 1 - 1 = (i - 1) + 1 by omega, Nat.pow_succ, Nat.mul_comm (2 ^ (i - 1)) 2, ← Nat.mul_assoc]
    apply Nat.mul_le_mul_right
    have h7 := eu_half hb0 h2
    rw [Nat.mul_assoc, Nat.mul_comm (a % b) 2, Nat.mul_comm a b]
    exact Nat.mul_le_mul_left b h7
theorem EU_64 {u v a b : Nat} (h : EU u v 64 a b) (hu : u < 2147483648) (hv : v < 2147483648) : b = 0 := by
  rcases h with ⟨h1, _⟩ | ⟨_, _, h3, h4, _⟩
  · omega
  · apply Classical.byContradiction
    intro q
    have h5 : 1 * 1 ≤ a * b := Nat.mul_le_mul h3 (Nat.pos_of_ne_zero q)
    have h6 : u * v ≤ 2147483648 * 2147483648 := Nat.mul_le_mul (by omega) (by omega)
    have h7 : 1 * 2 ^ 63 ≤ a * b * 2 ^ (64 - 1) := Nat.mul_le_mul_right _ h5
    have h8 : (2 : Nat) ^ 63 = 9223372036854775808 := by decide
    omega
theorem EU_end {u v i a b : Nat} (h : EU u v i a b) (hb : b = 0) (hv : 0 < v) : a = Nat.gcd u v := by
  rcases h with ⟨_, h2, h3⟩ | ⟨_, _, _, _, h5, _⟩
  · omega
  · rw [← h5, hb, Nat.gcd_zero_right]
theorem EU_lt {u v i a b : Nat} (h : EU u v i a b) (hu : u < 2147483648) (hv : v < 2147483648) : a < 2147483648 ∧ b < 2147483648 := by
  rcases h with ⟨_, h2, h3⟩ | ⟨_, h2, _, _, _, h6⟩ <;> omega
/-! a cure more, in the class's order -/
def eO (k b : Nat) : Nat := if k < 2 then 4 * k + b else 6 + k + b
theorem eO_k : ∀ k, k < 4 → ∀ b, b < (if k < 2 then 4 else 1) → kdE (eO k b) = k ∧ byE (eO k b) = b ∧ eO k b < 10 := by decide +kernel
theorem eO_n : ∀ k, k < 4 → eO k (if k < 2 then 4 else 1) = eO (k + 1) 0 := by decide +kernel
theorem enF_no {t s m : Nat → Nat} {c : Nat} (h : s (3 + c) ≠ 4) : ∀ j, j ≤ 10 → enF t s m (10 * c + j) = enF t s m (10 * c)
  | 0, _ => rfl
  | j + 1, hj => by
    rw [← Nat.add_assoc, enF, if_neg (by rw [show (10 * c + j) / 10 = c by omega]; exact fun q => h q.1)]
    exact enF_no h j (by omega)
theorem enF_st {t s m : Nat → Nat} {c k b : Nat} (h : s (3 + c) = 4) (hk : k < 4) (hb : b < if k < 2 then 4 else 1) : enF t s m (10 * c + (eO k b + 1)) = if okE t (uN (uN s (3 + c) k) (12 + c) b) m (t 2) = true then ((enF t s m (10 * c + eO k b)).1 + 1, if (enF t s m (10 * c + eO k b)).1 = 0 then nI (100 * c + 10 * k + b) else (enF t s m (10 * c + eO k b)).2) else enF t s m (10 * c + eO k b) := by
  have h1 := eO_k k hk b hb
  rw [← Nat.add_assoc, enF, show (10 * c + eO k b) / 10 = c by omega, show (10 * c + eO k b) % 10 = eO k b by omega]
  unfold trE
  rw [h1.1, h1.2.1]
  by_cases q : okE t (uN (uN s (3 + c) k) (12 + c) b) m (t 2) = true
  · rw [if_pos ⟨h, q⟩, if_pos q]
  · rw [if_neg (fun z => q z.2), if_neg q]
theorem enF_le (t s m : Nat → Nat) : ∀ k, (enF t s m k).1 ≤ k
  | 0 => Nat.le_refl _
  | k + 1 => by
    have h := enF_le t s m k
    rw [enF]
    split
    · dsimp only; omega
    · omega
