/-! what each call answers and leaves, as functions of what was there -/
def inR (x : Int32) (n : Nat) : Bool := decide (0 ≤ x.toInt ∧ x.toInt < (n : Int))
theorem inR_t {x : Int32} {n : Nat} (h : inR x n = true) (hn : n < 2147483648) : ∃ j : Nat, j < n ∧ x = nI j := by
  have h1 := of_decide_eq_true h
  obtain ⟨j, hj, rfl⟩ := nI_of (x := x) (fun q => by rw [i_lt, i_0] at q; omega)
  rw [nI_toInt hj] at h1
  exact ⟨j, by omega, rfl⟩
theorem inR_n {j n : Nat} (h : j < n) (hn : n < 2147483648) : inR (nI j) n = true := by
  unfold inR
  rw [nI_toInt (by omega)]
  exact decide_eq_true (by omega)
theorem inR_f {x : Int32} {n : Nat} (h : inR x n = false) : x.toInt < 0 ∨ (n : Int) ≤ x.toInt := by
  have h1 := of_decide_eq_false h
  omega
theorem in_R (x : Int32) (a : Nat) (h : a < 1073741824) : decide ((nI 0).toInt ≤ x.toInt ∧ x.toInt ≤ ((nI a) - (nI 1)).toInt) = inR x a := by
  unfold inR
  rw [pk_sub_toInt h (by decide), nI_toInt (n := 0) (by decide)]
  exact decide_eq_decide.mpr (by omega)
theorem in_R2 (x : Int32) (a : Nat) (h : a < 1073741824) : decide ((nI 0).toInt ≤ x.toInt ∧ x.toInt ≤ (nI a).toInt) = inR x (a + 1) := by
  unfold inR
  rw [nI_toInt (n := a) (by omega), nI_toInt (n := 0) (by decide)]
  exact decide_eq_decide.mpr (by omega)
def tyQ (x : Nat → Nat) (n : Nat) (v : Int32) : Int32 × (Nat → Nat) × Nat := if inR v 256 = false then (-1, x, n) else if n = 100 then (-3, x, n) else (nI (n + 1), uN x n v.toNatClampNeg, n + 1)
def ctQ (t s : Nat → Nat) (c w : Int32) : Int32 := if inR c (t 1) = false then -1 else if w = nI 0 then nI (t (3 + c.toNatClampNeg)) else if w = nI 1 then nI (t (12 + c.toNatClampNeg)) else if w = nI 2 then nI (t (21 + c.toNatClampNeg)) else if w = nI 3 then nI (t (30 + c.toNatClampNeg)) else if w = nI 4 then nI (s (3 + c.toNatClampNeg)) else if w = nI 5 then (if s (3 + c.toNatClampNeg) < 2 then nI (s (12 + c.toNatClampNeg)) else -9) else if w = nI 6 then nI (s (21 + c.toNatClampNeg)) else -1
/-- a snapshot more among those that are known -/
def nN (n : Nat) : Nat := if n = 10 then 9 else n
def flN (y f : Nat → Nat) (b i : Nat) : Nat → Nat := fun k => if b ≤ k ∧ k < b + i then f (k - b) else y k
theorem flN_0 (y f : Nat → Nat) (b : Nat) : flN y f b 0 = y := by
  funext k
  unfold flN
  rw [if_neg (by omega)]
theorem flN_s (y f : Nat → Nat) (b i : Nat) : uN (flN y f b i) (b + i) (f i) = flN y f b (i + 1) := by
  funext k
  unfold flN uN
  by_cases h : k = b + i
  · rw [if_pos h, if_pos (by omega)]
    congr 1
    omega
  · rw [if_neg h]
    dsimp only
    by_cases h2 : b ≤ k ∧ k < b + i
    · rw [if_pos h2, if_pos (by omega)]
    · rw [if_neg h2, if_neg (by omega)]
theorem flN_o {y f : Nat → Nat} {b i k : Nat} (h : k < b ∨ b + i ≤ k) : flN y f b i k = y k := if_neg (by omega)
theorem flN_i {y f : Nat → Nat} {b i k : Nat} (h : b ≤ k) (h2 : k < b + i) : flN y f b i k = f (k - b) := if_pos ⟨h, h2⟩
def nU (u s : Nat → Nat) (n : Nat) : Nat → Nat := flN (if n = 10 then flN u (fun k => u (k + 30)) 0 270 else u) s (30 * nN n) 30
abbrev Sq : Type := Int32 × (Nat → Nat) × (Nat → Nat) × Nat
def wiQ (t s u : Nat → Nat) (n : Nat) (l v : Int32) : Sq := if (inR l (t 2) && inR v 65536) = false then (-1, s, u, n) else (nI (s l.toNatClampNeg), uN s l.toNatClampNeg v.toNatClampNeg, nU u s n, nN n + 1)
def cuQ (t s u : Nat → Nat) (n : Nat) (c kd b : Int32) : Sq := if (inR c (t 1) && inR kd 5 && inR b (if kd.toInt < 2 then 4 else 1)) = false then (-1, s, u, n) else if s (3 + c.toNatClampNeg) = kd.toNatClampNeg ∧ s (12 + c.toNatClampNeg) = b.toNatClampNeg then (-2, s, u, n) else (nI (s (3 + c.toNatClampNeg)), uN (uN s (3 + c.toNatClampNeg) kd.toNatClampNeg) (12 + c.toNatClampNeg) b.toNatClampNeg, nU u s n, nN n + 1)
def skQ (t s u : Nat → Nat) (n : Nat) (c h : Int32) : Sq := if (inR c (t 1) && inR h 3) = false then (-1, s, u, n) else if s (21 + c.toNatClampNeg) = h.toNatClampNeg then (-2, s, u, n) else (nI (s (21 + c.toNatClampNeg)), uN s (21 + c.toNatClampNeg) h.toNatClampNeg, nU u s n, nN n + 1)
/-- the k-th snapshot, above what there was (beyond the 30 numbers nothing is changed) -/
def snp (u : Nat → Nat) (b : Nat) (s : Nat → Nat) : Nat → Nat := flN s (fun k => u (b + k)) 0 30
def unQ (s u : Nat → Nat) (n : Nat) : Int32 × (Nat → Nat) × Nat := if n = 0 then (-2, s, n) else (nI (n - 1), snp u (30 * (n - 1)) s, n - 1)
