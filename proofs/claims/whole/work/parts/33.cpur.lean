def shN (h : Nat → Nat) (n : Nat) : Nat → Nat := if n = 10 then cpN h h 1 0 9 else h
/-- what is undone of the class's setting by a note -/
def TB (so wh va vb : Nat) (wi cu cb sk wi1 cu1 cb1 sk1 : Nat → Nat) : Prop := (so = 0 ∧ wi1 = uN wi wh va ∧ cu1 = cu ∧ cb1 = cb ∧ sk1 = sk) ∨ (so = 1 ∧ wi1 = wi ∧ cu1 = uN cu wh va ∧ cb1 = uN cb wh vb ∧ sk1 = sk) ∨ (so = 2 ∧ wi1 = wi ∧ cu1 = cu ∧ cb1 = cb ∧ sk1 = uN sk wh va)
theorem bI_n {b : Bool} {v : Nat} (h : v < 2) : bI b = nI v ↔ (b == decide (v = 1)) = true := by
  rcases (show v = 0 ∨ v = 1 by omega) with q | q <;> subst q <;> cases b <;> decide +kernel
theorem agB_f {t s sl ss sf : Nat → Nat} {i n : Nat} (h : agB t s sl ss sf i = false) (hi : i ≤ n) : agB t s sl ss sf n = false := by
  induction n with
  | zero => rw [show i = 0 by omega] at h; exact h
  | succ n ih =>
    rcases Nat.lt_or_ge i (n + 1) with q | q
    · rw [agB, ih (by omega)]; rfl
    · rw [show i = n + 1 by omega] at h; exact h
theorem exB_f {f : Nat → Bool} {i n : Nat} (h : exB f i = true) (hi : i ≤ n) : exB f n = true := by
  obtain ⟨k, h1, h2⟩ := exB_t.mp h
  exact exB_t.mpr ⟨k, by omega, h2⟩
