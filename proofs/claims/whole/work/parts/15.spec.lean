/-! what was told (t, 42 numbers) and what is now (s, 30 numbers), as the reference lays them -/
def WT (t : Nat → Nat) : Prop := 2 ≤ t 0 ∧ t 0 ≤ 7 ∧ t 1 ≤ 9 ∧ t 2 ≤ 3 ∧ (∀ c, c < t 1 → t (3 + c) < 4 ∧ t (12 + c) < t 0 ∧ t (21 + c) < t 0 ∧ (t (3 + c) < 2 → t (30 + c) < 4) ∧ (2 ≤ t (3 + c) → t (30 + c) = 4294967287)) ∧ (∀ l, l < t 2 → 0 < t (39 + l) ∧ t (39 + l) < t 0)
def WS (s : Nat → Nat) : Prop := (∀ l, l < 3 → s l < 65536) ∧ (∀ c, c < 9 → s (3 + c) ≤ 4 ∧ s (12 + c) < 4 ∧ s (21 + c) < 3 ∧ (2 ≤ s (3 + c) → s (12 + c) = 0))
theorem WT.n {t : Nat → Nat} (h : WT t) : 2 ≤ t 0 ∧ t 0 ≤ 7 ∧ t 1 ≤ 9 ∧ t 2 ≤ 3 := ⟨h.1, h.2.1, h.2.2.1, h.2.2.2.1⟩
theorem WT.c {t : Nat → Nat} (h : WT t) {c : Nat} (hc : c < t 1) : t (3 + c) < 4 ∧ t (12 + c) < t 0 ∧ t (21 + c) < t 0 ∧ (t (3 + c) < 2 → t (30 + c) < 4) ∧ (2 ≤ t (3 + c) → t (30 + c) = 4294967287) := h.2.2.2.2.1 c hc
theorem WT.l {t : Nat → Nat} (h : WT t) {l : Nat} (hl : l < t 2) : 0 < t (39 + l) ∧ t (39 + l) < t 0 := h.2.2.2.2.2 l hl
theorem WS.c {s : Nat → Nat} (h : WS s) {c : Nat} (hc : c < 9) : s (3 + c) ≤ 4 ∧ s (12 + c) < 4 ∧ s (21 + c) < 3 ∧ (2 ≤ s (3 + c) → s (12 + c) = 0) := h.2 c hc
/-- whether a contact is shut in a state; whether it is a way -/
def shB (t s : Nat → Nat) (c st : Nat) : Bool :=
  if s (21 + c) = 0 then (if t (3 + c) = 0 then st.testBit (t (30 + c)) else if t (3 + c) = 1 then !(st.testBit (t (30 + c))) else true) && (decide (1 < s (3 + c)) || (st.testBit (s (12 + c)) == decide (s (3 + c) = 0)))
  else decide (s (21 + c) = 2)
def wyB (t s : Nat → Nat) (c : Nat) (back : Bool) : Bool :=
  if s (21 + c) = 0 then (if back then decide (t (3 + c) ≠ 3) && decide (s (3 + c) ≠ 2) else decide (s (3 + c) ≠ 3))
  else decide (s (21 + c) = 2)
/-- what is live: over one contact, over the first c, after some rounds -/
def lvA (t s : Nat → Nat) (c set : Nat) : Nat := set ||| (if set.testBit (t (12 + c)) && wyB t s c false then 2 ^ t (21 + c) else 0)
def lvB (t s : Nat → Nat) (c set : Nat) : Nat := set ||| (if set.testBit (t (21 + c)) && wyB t s c true then 2 ^ t (12 + c) else 0)
def lvC (t s : Nat → Nat) (st wo c set : Nat) : Nat := if (!wo.testBit c && shB t s c st) = true then lvB t s c (lvA t s c set) else set
def lvS (t s : Nat → Nat) (st wo : Nat) : Nat → Nat → Nat
  | 0, set => set
  | c + 1, set => lvC t s st wo c (lvS t s st wo c set)
def lvR (t s : Nat → Nat) (st wo : Nat) : Nat → Nat
  | 0 => 1
  | r + 1 => lvS t s st wo (t 1) (lvR t s st wo r)
def fedB (t s : Nat → Nat) (l st wo : Nat) : Bool := (lvR t s st wo (t 0)).testBit (t (39 + l))
/-- the number whose bits below n are f's -/
def bsN (f : Nat → Bool) : Nat → Nat
  | 0 => 0
  | n + 1 => bsN f n ||| (if f n then 2 ^ n else 0)
def fedN (t s : Nat → Nat) (l : Nat) : Nat := bsN (fun st => fedB t s l st 0) 16
theorem or_lt {a b k : Nat} (ha : a < 2 ^ k) (hb : b < 2 ^ k) : a ||| b < 2 ^ k := Nat.or_lt_two_pow ha hb
theorem p2_lt {a k : Nat} (h : a < k) : 2 ^ a < 2 ^ k := Nat.pow_lt_pow_right (by decide) h
theorem if_lt {b : Prop} [Decidable b] {x k : Nat} (h : x < 2 ^ k) : (if b then x else 0) < 2 ^ k := by
  split
  · exact h
  · exact Nat.two_pow_pos k
theorem lvA_lt {t s : Nat → Nat} {c set : Nat} (hG : t (21 + c) < 7) (h : set < 2 ^ 7) : lvA t s c set < 2 ^ 7 := or_lt h (if_lt (p2_lt hG))
theorem lvB_lt {t s : Nat → Nat} {c set : Nat} (hF : t (12 + c) < 7) (h : set < 2 ^ 7) : lvB t s c set < 2 ^ 7 := or_lt h (if_lt (p2_lt hF))
theorem lvC_lt {t s : Nat → Nat} {st wo c set : Nat} (hF : t (12 + c) < 7) (hG : t (21 + c) < 7) (h : set < 2 ^ 7) : lvC t s st wo c set < 2 ^ 7 := by
  unfold lvC
  split
  · exact lvB_lt hF (lvA_lt hG h)
  · exact h
theorem lvS_lt {t s : Nat → Nat} {st wo : Nat} (hT : WT t) : ∀ {c set : Nat}, c ≤ t 1 → set < 2 ^ 7 → lvS t s st wo c set < 2 ^ 7
  | 0, _, _, h => h
  | c + 1, set, hc, h => by
    have h1 := hT.c (c := c) (by omega)
    have h0 := hT.n
    exact lvC_lt (by omega) (by omega) (lvS_lt hT (by omega) h)
theorem lvR_lt {t s : Nat → Nat} {st wo : Nat} (hT : WT t) : ∀ r : Nat, lvR t s st wo r < 2 ^ 7
  | 0 => by simp [lvR, bsN]
  | r + 1 => lvS_lt hT (Nat.le_refl _) (lvR_lt hT r)
theorem bsN_lt (f : Nat → Bool) : ∀ n : Nat, bsN f n < 2 ^ n
  | 0 => by simp [lvR, bsN]
  | n + 1 => or_lt (Nat.lt_of_lt_of_le (bsN_lt f n) (Nat.pow_le_pow_right (by decide) (Nat.le_succ n))) (if_lt (p2_lt (Nat.lt_succ_self n)))
theorem bsN_bit (f : Nat → Bool) (i : Nat) : ∀ n : Nat, (bsN f n).testBit i = (decide (i < n) && f i)
  | 0 => by simp [bsN]
  | n + 1 => by
    rw [bsN, Nat.testBit_or, bsN_bit f i n]
    by_cases h : i = n
    · subst h
      cases hf : f i <;> simp [Nat.testBit_two_pow_self]
    · have h1 : (if f n = true then 2 ^ n else 0).testBit i = false := by
        split
        · exact Nat.testBit_two_pow_of_ne (fun q => h q.symm)
        · exact Nat.zero_testBit i
      rw [h1, Bool.or_false]
      by_cases h2 : i < n
      · simp [h2, Nat.lt_succ_of_lt h2]
      · have h3 : ¬ i < n + 1 := by omega
        simp [h2, h3]
