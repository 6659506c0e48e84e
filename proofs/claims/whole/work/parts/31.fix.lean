/-! what is live after as many rounds as there are nodes, less one, stays -/
def subB (a b : Nat) : Prop := ∀ i, a.testBit i = true → b.testBit i = true
theorem subB_or (a b : Nat) : subB a (a ||| b) := fun i h => by rw [Nat.testBit_or, h]; rfl
theorem lvC_sub (t s : Nat → Nat) (st wo c z : Nat) : subB z (lvC t s st wo c z) := by
  unfold lvC
  split
  · exact fun i h => subB_or _ _ i (subB_or _ _ i h)
  · exact fun i h => h
theorem lvS_sub (t s : Nat → Nat) (st wo : Nat) : ∀ c z, subB z (lvS t s st wo c z)
  | 0, _ => fun _ h => h
  | c + 1, z => fun i h => lvC_sub t s st wo c _ i (lvS_sub t s st wo c z i h)
theorem lt_bits {a n : Nat} (h : a < 2 ^ n) {i : Nat} (hi : n ≤ i) : a.testBit i = false := Nat.testBit_lt_two_pow (Nat.lt_of_lt_of_le h (Nat.pow_le_pow_right (by decide) hi))
theorem lvSt_lt {t s : Nat → Nat} {st wo : Nat} (hT : WT t) : ∀ {c z : Nat}, c ≤ t 1 → z < 2 ^ t 0 → lvS t s st wo c z < 2 ^ t 0
  | 0, _, _, h => h
  | c + 1, z, hc, h => by
    have h1 := hT.c (c := c) (by omega)
    have h2 := lvSt_lt (s := s) (st := st) (wo := wo) hT (show c ≤ t 1 by omega) h
    rw [lvS]
    unfold lvC
    split
    · unfold lvB lvA
      exact or_lt (or_lt h2 (if_lt (p2_lt h1.2.2.1))) (if_lt (p2_lt h1.2.1))
    · exact h2
theorem lvRt_lt {t s : Nat → Nat} {st wo : Nat} (hT : WT t) : ∀ r, lvR t s st wo r < 2 ^ t 0
  | 0 => by
    have h1 := hT.n
    rw [lvR]
    exact Nat.lt_of_lt_of_le (by decide : 1 < 2 ^ 1) (Nat.pow_le_pow_right (by decide) (by omega))
  | r + 1 => lvSt_lt hT (Nat.le_refl _) (lvRt_lt hT r)
theorem pcF_mono {a b : Nat} (h : subB a b) : ∀ n, pcF a n ≤ pcF b n
  | 0 => Nat.le_refl 0
  | n + 1 => by
    have h1 := pcF_mono h n
    simp only [pcF]
    cases ha : a.testBit n
    · simp; omega
    · rw [h n ha]; omega
theorem pcF_lt {a b i : Nat} (h : subB a b) (h1 : a.testBit i = false) (h2 : b.testBit i = true) : ∀ {n}, i < n → pcF a n < pcF b n
  | 0, hi => absurd hi (by omega)
  | n + 1, hi => by
    simp only [pcF]
    by_cases q : i = n
    · subst q
      have := pcF_mono h i
      rw [h1, h2]
      simp
      omega
    · have h3 := pcF_lt h h1 h2 (show i < n by omega)
      cases ha : a.testBit n
      · simp; omega
      · rw [h n ha]; omega
theorem pcF_full {a : Nat} : ∀ {n}, n ≤ pcF a n → ∀ i, i < n → a.testBit i = true
  | 0, _, i, hi => absurd hi (by omega)
  | n + 1, h, i, hi => by
    have h1 := pcF_le a n
    simp only [pcF] at h
    have h2 : (a.testBit n).toNat ≤ 1 := Bool.toNat_le _
    by_cases q : i = n
    · subst q
      cases ha : a.testBit i
      · rw [ha] at h; simp at h; omega
      · rfl
    · exact pcF_full (n := n) (by omega) i (by omega)
theorem ne_bit {a b n : Nat} (h : subB a b) (ha : a < 2 ^ n) (hb : b < 2 ^ n) (hne : a ≠ b) : ∃ i, i < n ∧ a.testBit i = false ∧ b.testBit i = true := by
  apply Classical.byContradiction
  intro hno
  apply hne
  apply Nat.eq_of_testBit_eq
  intro i
  rcases Nat.lt_or_ge i n with q | q
  · cases ha' : a.testBit i
    · cases hb' : b.testBit i
      · rfl
      · exact absurd ⟨i, q, ha', hb'⟩ hno
    · exact (h i ha').symm
  · rw [lt_bits ha q, lt_bits hb q]
theorem lvR_cnt {t s : Nat → Nat} {st wo : Nat} (hT : WT t) : ∀ k, lvR t s st wo (k + 1) = lvR t s st wo k ∨ k + 1 ≤ pcF (lvR t s st wo k) (t 0)
  | 0 => by
    right
    have h1 := hT.n
    have h2 : ∀ n, 1 ≤ n → 1 ≤ pcF 1 n := by
      intro n hn
      induction n with
      | zero => omega
      | succ n ih =>
        simp only [pcF]
        by_cases q : n = 0
        · subst q; decide
        · have := ih (by omega); omega
    exact h2 (t 0) (by omega)
  | k + 1 => by
    rcases lvR_cnt (s := s) (st := st) (wo := wo) hT k with h | h
    · left
      have e : lvR t s st wo (k + 1 + 1) = lvS t s st wo (t 1) (lvR t s st wo (k + 1)) := rfl
      have e2 : lvR t s st wo (k + 1) = lvS t s st wo (t 1) (lvR t s st wo k) := rfl
      rw [e, h, ← e2, h]
    · by_cases q : lvR t s st wo (k + 1) = lvR t s st wo k
      · left
        have e : lvR t s st wo (k + 1 + 1) = lvS t s st wo (t 1) (lvR t s st wo (k + 1)) := rfl
        rw [e, q]
        exact q
      · right
        have hs : subB (lvR t s st wo k) (lvR t s st wo (k + 1)) := lvS_sub t s st wo (t 1) _
        obtain ⟨i, hi, ha, hb⟩ := ne_bit hs (lvRt_lt hT k) (lvRt_lt hT (k + 1)) (fun e => q e.symm)
        have := pcF_lt hs ha hb hi
        omega
theorem lvR_stay {t s : Nat → Nat} {st wo k : Nat} (h : lvR t s st wo (k + 1) = lvR t s st wo k) : ∀ j, lvR t s st wo (k + j) = lvR t s st wo k
  | 0 => rfl
  | j + 1 => by
    have e : lvR t s st wo (k + (j + 1)) = lvS t s st wo (t 1) (lvR t s st wo (k + j)) := rfl
    rw [e, lvR_stay h j]
    exact h
theorem lvR_fix {t s : Nat → Nat} {st wo : Nat} (hT : WT t) : lvR t s st wo (t 0) = lvR t s st wo (t 0 - 1) := by
  have h1 := hT.n
  have e : t 0 = (t 0 - 1) + 1 := by omega
  rcases lvR_cnt (s := s) (st := st) (wo := wo) hT (t 0 - 1) with h | h
  · rw [← e] at h
    exact h
  · have hs : subB (lvR t s st wo (t 0 - 1)) (lvR t s st wo (t 0 - 1 + 1)) := lvS_sub t s st wo (t 1) _
    rw [← e] at hs h
    apply Classical.byContradiction
    intro q
    obtain ⟨i, hi, ha, hb⟩ := ne_bit hs (lvRt_lt hT _) (lvRt_lt hT _) (fun e => q e.symm)
    rw [pcF_full h i hi] at ha
    cases ha
theorem lvR_early {t s : Nat → Nat} {st wo r : Nat} (hr : r ≤ t 0) (h : lvR t s st wo (r + 1) = lvR t s st wo r) : lvR t s st wo (t 0) = lvR t s st wo r := by
  have := lvR_stay h (t 0 - r)
  rw [show r + (t 0 - r) = t 0 by omega] at this
  exact this
/-- what the class's rows say, carried from one set to another -/
theorem RcK_cong {rc z z' : Nat → Nat} (h : RcK rc z) (h2 : ∀ st, st < 16 → z st = z' st) : RcK rc z' := ⟨h.1, fun a ha st hst => by rw [h.2 a ha st hst, h2 st hst]⟩
theorem RcK_same {rc z z' : Nat → Nat} (h : RcK rc z) (h' : RcK rc z') (hz : ∀ st, st < 16 → z st < 2 ^ 7) (hz' : ∀ st, st < 16 → z' st < 2 ^ 7) : ∀ st, st < 16 → z st = z' st := by
  intro st hst
  apply Nat.eq_of_testBit_eq
  intro i
  rcases Nat.lt_or_ge i 7 with q | q
  · rw [← h.2 i q st hst, ← h'.2 i q st hst]
  · rw [lt_bits (hz st hst) q, lt_bits (hz' st hst) q]
theorem RcK_0 {rc : Nat → Nat} : RcK (uN (flN rc (fun _ => 0) 0 7) 0 65535) (fun _ => 1) := by
  constructor
  · intro a ha
    unfold uN
    split
    · decide
    · rw [flN_i (Nat.zero_le _) (by omega)]; decide
  · intro a ha st hst
    unfold uN
    split
    · rename_i h; subst h; rw [sb2 _ hst]; show true = (1 : Nat).testBit 0; decide
    · rename_i h
      rw [flN_i (Nat.zero_le _) (by omega), Nat.zero_testBit]
      have : ∀ q, q < 7 → ¬ q = 0 → (1 : Nat).testBit q = false := by decide +kernel
      exact (this a ha h).symm
theorem RcK_fl {rc z : Nat → Nat} {v fr to : Nat} (h : RcK rc z) (hf : fr < 7) (ht : to < 7) : RcK (uN rc to (rc to ||| ((rc fr &&& v) &&& (rc to ^^^ 4294967295)))) (flZ z v fr to) := by
  constructor
  · intro a ha
    unfold uN
    split
    · exact or_lt (k := 16) (h.1 to ht) (Nat.lt_of_le_of_lt Nat.and_le_left (Nat.lt_of_le_of_lt Nat.and_le_left (h.1 fr hf)))
    · exact h.1 a ha
  · intro a ha st hst
    rw [flZ_bit]
    unfold uN
    split
    · rename_i e
      subst e
      rw [fl_bit (h.1 a ht) hst, h.2 a ha st hst, h.2 fr hf st hst, decide_eq_true rfl, Bool.true_and]
    · rename_i e
      rw [decide_eq_false e, h.2 a ha st hst, Bool.false_and, Bool.or_false]
theorem RcK_fl0 {rc z : Nat → Nat} {v fr to : Nat} (h : RcK rc z) (hf : fr < 7) (h0 : (rc fr &&& v) &&& (rc to ^^^ 4294967295) = 0) : RcK rc (flZ z v fr to) := by
  refine ⟨h.1, fun a ha st hst => ?_⟩
  rw [flZ_bit]
  by_cases e : a = to
  · subst e
    rw [decide_eq_true rfl, Bool.true_and, ← h.2 a ha st hst, ← h.2 fr hf st hst]
    exact fl_0 h0 hst
  · rw [decide_eq_false e, h.2 a ha st hst, Bool.false_and, Bool.or_false]
theorem so_z {t s sh : Nat → Nat} {fo ba : Nat → Bool} {c : Nat} (z : Nat → Nat) (h : LD1 t c (s (3 + c)) (s (12 + c)) (s (21 + c)) (sh c) (fo c) (ba c)) : ∀ st, st < 16 → (if ba c = true then flZ (if fo c = true then flZ z (sh c) (t (12 + c)) (t (21 + c)) else z) (sh c) (t (21 + c)) (t (12 + c)) else (if fo c = true then flZ z (sh c) (t (12 + c)) (t (21 + c)) else z)) st = (if shB t s c st = true then lvB t s c (lvA t s c (z st)) else z st) := by
  intro st hst
  have h1 := h.2.1 st hst
  rw [shV_B] at h1
  have h2 := h.2.2.1
  have h3 := h.2.2.2
  rw [wyV_B] at h2 h3
  unfold lvB lvA
  rw [← h2, ← h3]
  cases hs : shB t s c st
  · rw [hs] at h1
    cases fo c <;> cases ba c <;> simp [flZ, h1]
  · rw [hs] at h1
    cases fo c <;> cases ba c <;> simp [flZ, h1]
