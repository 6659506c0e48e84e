/-! the text's tokens -/
def isD (v : Nat) : Bool := decide (48 ≤ v ∧ v ≤ 57)
def skF (x : Nat → Nat) : Nat → Nat → Nat
  | 0, p => p
  | f + 1, p => if x p = 32 then skF x f (p + 1) else p
def skp (x : Nat → Nat) (n p : Nat) : Nat := skF x (n - p) p
def dgF (x : Nat → Nat) : Nat → Nat → Nat
  | 0, p => p
  | f + 1, p => if isD (x p) = true then dgF x f (p + 1) else p
def dgp (x : Nat → Nat) (n p : Nat) : Nat := dgF x (n - p) p
theorem skp_s {x : Nat → Nat} {n p : Nat} (h : p < n) (h2 : x p = 32) : skp x n p = skp x n (p + 1) := by
  unfold skp
  rw [show n - p = (n - (p + 1)) + 1 by omega, skF, if_pos h2]
theorem skp_e {x : Nat → Nat} {n p : Nat} (h : n ≤ p ∨ x p ≠ 32) : skp x n p = p := by
  unfold skp
  rcases Nat.eq_zero_or_pos (n - p) with q | q
  · rw [q, skF]
  · rw [show n - p = (n - p - 1) + 1 by omega, skF, if_neg (by omega)]
theorem dgp_s {x : Nat → Nat} {n p : Nat} (h : p < n) (h2 : isD (x p) = true) : dgp x n p = dgp x n (p + 1) := by
  unfold dgp
  rw [show n - p = (n - (p + 1)) + 1 by omega, dgF, if_pos h2]
theorem dgp_e {x : Nat → Nat} {n p : Nat} (h : n ≤ p ∨ isD (x p) = false) : dgp x n p = p := by
  unfold dgp
  rcases Nat.eq_zero_or_pos (n - p) with q | q
  · rw [q, dgF]
  · have h3 : isD (x p) = false := by rcases h with a | a; omega; exact a
    rw [show n - p = (n - p - 1) + 1 by omega, dgF, if_neg (by rw [h3]; decide)]
theorem skF_ge (x : Nat → Nat) : ∀ f p, p ≤ skF x f p ∧ skF x f p ≤ p + f
  | 0, p => by simp [skF]
  | f + 1, p => by
    rw [skF]
    split
    · have := skF_ge x f (p + 1); omega
    · omega
theorem dgF_ge (x : Nat → Nat) : ∀ f p, p ≤ dgF x f p ∧ dgF x f p ≤ p + f
  | 0, p => by simp [dgF]
  | f + 1, p => by
    rw [dgF]
    split
    · have := dgF_ge x f (p + 1); omega
    · omega
theorem skp_ge (x : Nat → Nat) {n p : Nat} (h : p ≤ n) : p ≤ skp x n p ∧ skp x n p ≤ n := by
  have := skF_ge x (n - p) p
  unfold skp
  omega
theorem dgp_ge (x : Nat → Nat) {n p : Nat} (h : p ≤ n) : p ≤ dgp x n p ∧ dgp x n p ≤ n := by
  have := dgF_ge x (n - p) p
  unfold dgp
  omega
/-- where a token ends; what it is: a letter, a digit, 300 the end, 301 a number of several digits -/
def tke (x : Nat → Nat) (n p : Nat) : Nat := if skp x n p < n then (if isD (x (skp x n p)) = true then dgp x n (skp x n p) else skp x n p + 1) else skp x n p
def tkv (x : Nat → Nat) (n p : Nat) : Nat := if skp x n p < n then (if isD (x (skp x n p)) = true then (if dgp x n (skp x n p) = skp x n p + 1 then x (skp x n p) else 301) else x (skp x n p)) else 300
def isL (v : Nat) : Bool := decide (v = 110 ∨ v = 111 ∨ v = 99 ∨ v = 119 ∨ v = 100 ∨ v = 108)
def tkc (v : Nat) : Nat := if v = 300 then 0 else if v = 301 then 4 else if isD v = true then 2 else if v = 59 then 3 else if isL v = true then 1 else 4
def tko (x : Nat → Nat) (n p : Nat) : Nat := tkc (tkv x n p)
/-- what the reference's value is behind a token -/
def VV (x : Nat → Nat) (n p : Nat) (va : Int32) : Prop := (isD (tkv x n p) = true → va = nI (tkv x n p - 48)) ∧ (isL (tkv x n p) = true → va = nI (tkv x n p))
theorem tke_ge (x : Nat → Nat) {n p : Nat} (h : p ≤ n) : p ≤ tke x n p ∧ tke x n p ≤ n := by
  have h1 := skp_ge x h
  unfold tke
  split
  · split
    · have := dgp_ge x (n := n) (p := skp x n p) (by omega); omega
    · omega
  · omega
theorem tke_gt {x : Nat → Nat} {n p : Nat} (h : p ≤ n) (h2 : tkv x n p ≠ 300) : p < tke x n p := by
  have h1 := skp_ge x h
  have h3 : skp x n p < n := by
    rcases Nat.lt_or_ge (skp x n p) n with q | q
    · exact q
    · exact absurd (by unfold tkv; rw [if_neg (by omega)]) h2
  unfold tke
  rw [if_pos h3]
  split
  · rename_i hd
    have := dgp_ge x (n := n) (p := skp x n p + 1) (by omega)
    rw [dgp_s h3 hd]
    omega
  · omega
theorem tkv_D {x : Nat → Nat} {n p : Nat} (h3 : isD (tkv x n p) = true) : 48 ≤ tkv x n p ∧ tkv x n p ≤ 57 := of_decide_eq_true h3
abbrev Rd : Type := Nat ⊕ (Nat × (Nat → Nat))
def okN (x : Nat → Nat) (n p lo hi : Nat) : Bool := isD (tkv x n p) && decide (lo ≤ tkv x n p - 48 ∧ tkv x n p - 48 ≤ hi)
def addC (d : Nat → Nat) (kd u v b : Nat) : Nat → Nat := uN (uN (uN (uN (uN d (3 + d 1) kd) (12 + d 1) u) (21 + d 1) v) (30 + d 1) b) 1 (d 1 + 1)
def addL (d : Nat → Nat) (u : Nat) : Nat → Nat := uN (uN d (39 + d 2) u) 2 (d 2 + 1)
def frF (d : Nat → Nat) (u : Nat) : Nat → Bool
  | 0 => decide (u ≠ 0)
  | i + 1 => frF d u i && decide (d (39 + i) ≠ u)
def rdC (x : Nat → Nat) (n kd p : Nat) (d : Nat → Nat) : Rd :=
  if okN x n p 0 (d 0 - 1) = false then .inl (skp x n p) else
  if (okN x n (tke x n p) 0 (d 0 - 1) && decide (tkv x n (tke x n p) ≠ tkv x n p)) = false then .inl (skp x n (tke x n p)) else
  if kd < 2 then (if okN x n (tke x n (tke x n p)) 0 3 = false then .inl (skp x n (tke x n (tke x n p))) else .inr (tke x n (tke x n (tke x n p)), addC d kd (tkv x n p - 48) (tkv x n (tke x n p) - 48) (tkv x n (tke x n (tke x n p)) - 48)))
  else .inr (tke x n (tke x n p), addC d kd (tkv x n p - 48) (tkv x n (tke x n p) - 48) 4294967287)
def kdL (v : Nat) : Nat := if v = 111 then 0 else if v = 99 then 1 else if v = 119 then 2 else 3
def rdB (x : Nat → Nat) (n v p : Nat) (d : Nat → Nat) : Rd :=
  if v = 110 then (if okN x n p 2 7 = false then .inl (skp x n p) else .inr (tke x n p, uN d 0 (tkv x n p - 48)))
  else if v = 108 then (if (okN x n p 0 (d 0 - 1) && frF d (tkv x n p - 48) (d 2)) = false then .inl (skp x n p) else .inr (tke x n p, addL d (tkv x n p - 48)))
  else rdC x n (kdL v) p d
def mayB (k v : Nat) (d : Nat → Nat) : Bool := if v = 110 then decide (k = 0) else if v = 108 then decide (d 2 < 3) else decide (d 1 < 9)
def rdS (x : Nat → Nat) (n : Nat) (q : Rd) : Rd := match q with
  | .inl f => .inl f
  | .inr z => if tkv x n z.1 = 59 then .inr (tke x n z.1, z.2) else .inl (skp x n z.1)
def rdI (x : Nat → Nat) (n k p : Nat) (d : Nat → Nat) : Rd := if (isL (tkv x n p) && mayB k (tkv x n p) d) = false then .inl (skp x n p) else rdS x n (rdB x n (tkv x n p) (tke x n p) d)
/-- the items, k of them read: a fault, or how many and the net -/
def rdA (x : Nat → Nat) (n : Nat) : Nat → Nat → Nat → (Nat → Nat) → Rd
  | 0, k, _, d => .inr (k, d)
  | f + 1, k, p, d => if tkv x n p = 300 then .inr (k, d) else match rdI x n k p d with
    | .inl a => .inl a
    | .inr z => rdA x n f (k + 1) z.1 z.2
def d0N : Nat → Nat := fun k => if k = 0 then 3 else 0
def rdT (x : Nat → Nat) (n : Nat) : Rd := rdA x n 101 0 0 d0N
def s0N : Nat → Nat := fun k => if 3 ≤ k ∧ k < 12 then 4 else 0
/-- what is wished at first -/
def swN (t : Nat → Nat) : Nat → Nat := flN s0N (fun l => fedN t s0N l) 0 (t 2)
theorem in_nn {a b c : Nat} (ha : a < 2147483648) (hb : b < 2147483648) (hc : c < 2147483648) : decide ((nI b).toInt ≤ (nI a).toInt ∧ (nI a).toInt ≤ (nI c).toInt) = decide (b ≤ a ∧ a ≤ c) := by
  rw [nI_toInt ha, nI_toInt hb, nI_toInt hc]
  exact decide_eq_decide.mpr (by omega)
theorem val_1 {a : Nat} (h : 48 ≤ a) : nI 10 * nI 0 + nI a - nI 48 = nI (a - 48) := by
  rw [pk_mul, nI_add, Nat.mul_zero, Nat.zero_add, pk_sub h]
theorem tko_lt (x : Nat → Nat) (n p : Nat) : tko x n p < 2147483648 := by
  unfold tko tkc
  repeat' split
  all_goals decide
theorem tko_2 {x : Nat → Nat} {n p : Nat} (h : tko x n p = 2) : isD (tkv x n p) = true := by
  unfold tko tkc at h
  repeat' split at h
  all_goals first | assumption | exact absurd h (by decide)
theorem tko_n2 {x : Nat → Nat} {n p : Nat} (h : ¬ tko x n p = 2) : isD (tkv x n p) = false := by
  cases hD : isD (tkv x n p)
  · rfl
  · have h2 := tkv_D hD
    exact absurd (by unfold tko tkc; rw [if_neg (by omega), if_neg (by omega), if_pos hD]) h
theorem d0_of {d : Nat → Nat} (h : ∀ k, 42 ≤ k → d k = 0) : uN (flN d (fun _ => 0) 0 42) 0 3 = d0N := by
  funext k
  unfold uN flN d0N
  by_cases h0 : k = 0
  · rw [if_pos h0, if_pos h0]
  · rw [if_neg h0, if_neg h0]
    by_cases h1 : k < 42
    · rw [if_pos ⟨Nat.zero_le _, by omega⟩]
    · rw [if_neg (by omega), h k (by omega)]
theorem okN_t {x : Nat → Nat} {n p lo hi : Nat} (h : okN x n p lo hi = true) : isD (tkv x n p) = true ∧ lo ≤ tkv x n p - 48 ∧ tkv x n p - 48 ≤ hi ∧ 48 ≤ tkv x n p ∧ tkv x n p ≤ 57 := by
  unfold okN at h
  rw [Bool.and_eq_true] at h
  have h2 := of_decide_eq_true h.2
  have h3 := tkv_D h.1
  exact ⟨h.1, h2.1, h2.2, h3.1, h3.2⟩
/-- how a piece of the text left the reference -/
def RF (x : Nat → Nat) (n : Nat) (res : Rd) (d : Nat → Nat) (sp tk pl va fa : Int32) (d1 : Nat → Nat) : Prop := (∀ k, 42 ≤ k → d1 k = d k) ∧ ((∃ f, res = .inl f ∧ fa = nI f ∧ f ≤ n) ∨ (∃ q, res = .inr (q, d1) ∧ q ≤ n ∧ fa = -1 ∧ sp = nI (tke x n q) ∧ tk = nI (tko x n q) ∧ pl = nI (skp x n q) ∧ VV x n q va))
theorem addC_eq (d : Nat → Nat) (kd u v b : Nat) : uN (uN (uN (uN (uN d (3 + d 1) kd) (12 + d 1) u) (21 + d 1) v) (30 + d 1) b) 1 (uN (uN (uN (uN d (3 + d 1) kd) (12 + d 1) u) (21 + d 1) v) (30 + d 1) b 1 + 1) = addC d kd u v b := by
  unfold addC
  rw [uN_n (by omega), uN_n (by omega), uN_n (by omega), uN_n (by omega)]
theorem addL_eq (d : Nat → Nat) (u : Nat) : uN (uN d (39 + d 2) u) 2 (uN d (39 + d 2) u 2 + 1) = addL d u := by
  unfold addL
  rw [uN_n (by omega)]
theorem uN_far {d : Nat → Nat} {a v k : Nat} (h : a < 42) (hk : 42 ≤ k) : uN d a v k = d k := uN_n (by omega)
