def anN (a b : Nat) : Nat := a &&& (b ^^^ 4294967295)
theorem anN_le (a b : Nat) : anN a b ≤ a := Nat.and_le_left
theorem fedN_lt (t s : Nat → Nat) (l : Nat) : fedN t s l < 65536 := bsN_lt _ 16
/-- how many bits below n -/
def pcF (a : Nat) : Nat → Nat
  | 0 => 0
  | n + 1 => pcF a n + (a.testBit n).toNat
def pcN (a : Nat) : Nat := pcF a 9
theorem pc_step : ∀ r, r < 512 → r ≠ 0 → pcN (r &&& (r - 1)) + 1 = pcN r ∧ r &&& (r - 1) < r := by decide +kernel
theorem pc_0 : pcN 0 = 0 := by decide +kernel
theorem pcF_le (a : Nat) : ∀ n, pcF a n ≤ n
  | 0 => Nat.le_refl 0
  | n + 1 => by
    have h := pcF_le a n
    have h2 : (a.testBit n).toNat ≤ 1 := Bool.toNat_le _
    simp only [pcF]
    omega
/-- parting: the reference's way down over all sets -/
def prD (t s : Nat → Nat) (l st : Nat) : Nat → Nat
  | 0 => 2 ^ t 1 - 1
  | i + 1 => if pcN (2 ^ t 1 - 1 - i) ≤ pcN (prD t s l st i) ∧ fedB t s l st (2 ^ t 1 - 1 - i) = false then 2 ^ t 1 - 1 - i else prD t s l st i
def prQ (t s : Nat → Nat) (l st : Int32) : Int32 := if (inR l (t 2) && inR st 16) = false then -1 else nI (prD t s l.toNatClampNeg st.toNatClampNeg (2 ^ t 1))
theorem prD_lt (t s : Nat → Nat) (l st : Nat) : ∀ i, prD t s l st i < 2 ^ t 1
  | 0 => by have := Nat.two_pow_pos (t 1); simp only [prD]; omega
  | i + 1 => by
    have h := prD_lt t s l st i
    have := Nat.two_pow_pos (t 1)
    simp only [prD]
    split
    · omega
    · exact h
theorem p2_9 {n : Nat} (h : n ≤ 9) : 2 ^ n ≤ 512 := Nat.pow_le_pow_right (by decide) h
/-- a cure more -/
def kdE (e : Nat) : Nat := if e < 8 then e / 4 else e - 6
def byE (e : Nat) : Nat := if e < 8 then e % 4 else 0
def trE (s : Nat → Nat) (c e : Nat) : Nat → Nat := uN (uN s (3 + c) (kdE e)) (12 + c) (byE e)
def okL (t s m : Nat → Nat) (l : Nat) : Bool := decide (anN (fedN t s l) (s l) = 0) && decide (anN (anN (s l) (fedN t s l)) (m l) = 0)
def okE (t s m : Nat → Nat) : Nat → Bool
  | 0 => true
  | l + 1 => okE t s m l && okL t s m l
def msN (t s m0 : Nat → Nat) : Nat → Nat := flN m0 (fun l => anN (s l) (fedN t s l)) 0 (t 2)
def enF (t s m : Nat → Nat) : Nat → Nat × Int32
  | 0 => (0, -9)
  | k + 1 => if s (3 + k / 10) = 4 ∧ okE t (trE s (k / 10) (k % 10)) m (t 2) = true then ((enF t s m k).1 + 1, if (enF t s m k).1 = 0 then nI (100 * (k / 10) + 10 * kdE (k % 10) + byE (k % 10)) else (enF t s m k).2) else enF t s m k
def enQ (t s : Nat → Nat) (w : Int32) : Int32 := if inR w 2 = false then -1 else if w = nI 0 then nI (enF t s (fun l => anN (s l) (fedN t s l)) (10 * t 1)).1 else (enF t s (fun l => anN (s l) (fedN t s l)) (10 * t 1)).2
/-- some number below n has it -/
def exB (f : Nat → Bool) : Nat → Bool
  | 0 => false
  | n + 1 => exB f n || f n
def flB (t s : Nat → Nat) (l a b : Nat) : Bool := exB (fun k => decide (1 ≤ k) && (decide (anN k (a ^^^ b) = 0) && (fedN t s l).testBit (a ^^^ k))) (a ^^^ b) && (!(fedN t s l).testBit a && !(fedN t s l).testBit b)
def faQ (t s : Nat → Nat) (l a b : Int32) : Int32 := if (inR l (t 2) && inR a 16 && inR b 16) = false then -1 else nI (flB t s l.toNatClampNeg a.toNatClampNeg b.toNatClampNeg).toNat
/-- the odds: of a set of contacts, of all -/
def ptN (x set : Nat) : Nat → Nat
  | 0 => 1
  | c + 1 => ptN x set c * (if set.testBit c then x else 10 - x)
def upN (t s : Nat → Nat) (x l st : Nat) : Nat → Nat
  | 0 => 0
  | i + 1 => upN t s x l st i + (if fedB t s l st i then ptN x i (t 1) else 0)
def odQ (t s : Nat → Nat) (x l st w : Int32) : Int32 := if (inR x 11 && inR l (t 2) && inR st 16 && inR w 2) = false then -1 else if w = nI 0 then nI (upN t s x.toNatClampNeg l.toNatClampNeg st.toNatClampNeg (2 ^ t 1) / Nat.gcd (upN t s x.toNatClampNeg l.toNatClampNeg st.toNatClampNeg (2 ^ t 1)) (10 ^ t 1)) else nI (10 ^ t 1 / Nat.gcd (upN t s x.toNatClampNeg l.toNatClampNeg st.toNatClampNeg (2 ^ t 1)) (10 ^ t 1))
theorem ptN_le {x : Nat} (hx : x ≤ 10) (set : Nat) : ∀ c, ptN x set c ≤ 10 ^ c
  | 0 => Nat.le_refl 1
  | c + 1 => by
    simp only [ptN]
    rw [Nat.pow_succ]
    exact Nat.mul_le_mul (ptN_le hx set c) (by split <;> omega)
theorem upN_le (t s : Nat → Nat) {x : Nat} (hx : x ≤ 10) (l st : Nat) : ∀ i, upN t s x l st i ≤ i * 10 ^ t 1
  | 0 => by simp [upN]
  | i + 1 => by
    have h := upN_le t s hx l st i
    have h2 := ptN_le hx i (t 1)
    simp only [upN]
    rw [Nat.succ_mul]
    split <;> omega
theorem p10_9 {n : Nat} (h : n ≤ 9) : 10 ^ n ≤ 1000000000 := Nat.pow_le_pow_right (by decide) h
/-- what was seen -/
def seQ (t sl ss sf : Nat → Nat) (n : Nat) (l st f : Int32) : Int32 × (Nat → Nat) × (Nat → Nat) × (Nat → Nat) × Nat := if (inR l (t 2) && inR st 16 && inR f 2) = false then (-1, sl, ss, sf, n) else if n = 6 then (-3, sl, ss, sf, n) else (nI (n + 1), uN sl n l.toNatClampNeg, uN ss n st.toNatClampNeg, uN sf n f.toNatClampNeg, n + 1)
def WE (t sl ss sf : Nat → Nat) (n : Nat) : Prop := n ≤ 6 ∧ ∀ e, e < n → sl e < t 2 ∧ ss e < 16 ∧ sf e < 2
def agB (t s sl ss sf : Nat → Nat) : Nat → Bool
  | 0 => true
  | e + 1 => agB t s sl ss sf e && (fedB t s (sl e) (ss e) 0 == decide (sf e = 1))
def usQ (t s sl ss sf : Nat → Nat) (n : Nat) (h : Int32) : Int32 := if (inR h 3 && decide (h ≠ nI 0)) = false then -1 else nI (bsN (fun c => agB t (uN s (21 + c) h.toNatClampNeg) sl ss sf n) (t 1))
theorem uN_back (s : Nat → Nat) (a v : Nat) : uN (uN s a v) a (s a) = s := by
  funext k
  unfold uN
  split
  · rename_i h; rw [h]
  · rfl
theorem trE_back {s : Nat → Nat} {c e : Nat} (h : s (3 + c) = 4) (h2 : s (12 + c) = 0) : uN (uN (trE s c e) (3 + c) 4) (12 + c) 0 = s := by
  funext k
  unfold trE uN
  by_cases h3 : k = 12 + c
  · rw [if_pos h3, h3, h2]
  · rw [if_neg h3]
    by_cases h4 : k = 3 + c
    · rw [if_pos h4, h4, h]
    · rw [if_neg h4, if_neg h3, if_neg h4]
/-- images -/
def kpQ (t s kp : Nat → Nat) (ik : Nat → Bool) (i : Int32) : Int32 × (Nat → Nat) × (Nat → Bool) := if inR i 2 = false then (-1, kp, ik) else (nI (t 1), flN kp s (30 * i.toNatClampNeg) 30, uB ik i.toNatClampNeg true)
def bkQ (t s kp : Nat → Nat) (ik : Nat → Bool) (n : Nat) (i : Int32) : Int32 × (Nat → Nat) × Nat := if inR i 2 = false then (-1, s, n) else if ik i.toNatClampNeg = false then (-2, s, n) else (nI (t 1), snp kp (30 * i.toNatClampNeg) s, 0)
/-- how many loads below n have it -/
def cnB (f : Nat → Bool) : Nat → Nat
  | 0 => 0
  | n + 1 => cnB f n + (f n).toNat
theorem cnB_le (f : Nat → Bool) : ∀ n, cnB f n ≤ n
  | 0 => Nat.le_refl 0
  | n + 1 => by
    have h := cnB_le f n
    have h2 : (f n).toNat ≤ 1 := Bool.toNat_le _
    simp only [cnB]
    omega
def coQ (t s : Nat → Nat) (sm tn un : Nat) (w : Int32) : Int32 := if inR w 8 = false then -1 else if w = nI 3 then nI (cnB (fun l => decide (anN (fedN t s l) (s l) ≠ 0)) (t 2)) else if w = nI 4 then nI (cnB (fun l => decide (anN (s l) (fedN t s l) ≠ 0)) (t 2)) else if w = nI 5 then nI sm else if w = nI 6 then nI tn else if w = nI 7 then nI un else nI (t w.toNatClampNeg)
theorem dn_lt {m : Nat} (h : m < 2147483648) (h2 : ¬ nI m + Int32.ofInt (-1) < 0) : 1 ≤ m := by
  rcases Nat.eq_zero_or_pos m with e | e
  · subst e
    exact absurd (by decide +kernel) h2
  · exact e
theorem dn_0 {m : Nat} (h : m < 2147483648) (h2 : nI m + Int32.ofInt (-1) < 0) : m = 0 := by
  rcases Nat.eq_zero_or_pos m with e | e
  · exact e
  · rw [dec_n e] at h2
    exact absurd h2 (nI_pos (by omega))
theorem okE_f {t s m : Nat → Nat} {i n : Nat} (h : okE t s m i = false) (hi : i ≤ n) : okE t s m n = false := by
  induction n with
  | zero => rw [show i = 0 by omega] at h; exact h
  | succ n ih =>
    rcases Nat.lt_or_ge i (n + 1) with q | q
    · simp only [okE]; rw [ih (by omega)]; rfl
    · rw [show i = n + 1 by omega] at h; exact h
theorem okE_cong {t s m m' : Nat → Nat} : ∀ {n : Nat}, (∀ l, l < n → m l = m' l) → okE t s m n = okE t s m' n
  | 0, _ => rfl
  | n + 1, h => by
    simp only [okE]
    rw [okE_cong (fun l hl => h l (by omega))]
    unfold okL
    rw [h n (by omega)]
theorem enF_cong {t s m m' : Nat → Nat} (h : ∀ l, l < t 2 → m l = m' l) : ∀ k : Nat, enF t s m k = enF t s m' k
  | 0 => rfl
  | k + 1 => by
    simp only [enF]
    rw [enF_cong h k, okE_cong h]
theorem trE_k (s : Nat → Nat) (c e : Nat) : trE s c e (3 + c) = kdE e := by
  unfold trE
  rw [uN_n (by omega), uN_s]
theorem trE_b (s : Nat → Nat) (c e : Nat) : trE s c e (12 + c) = byE e := uN_s
theorem trE_l (s : Nat → Nat) (c e : Nat) {l : Nat} (h : l < 3) : trE s c e l = s l := by
  unfold trE
  rw [uN_n (by omega), uN_n (by omega)]
theorem WS_tr {s : Nat → Nat} (h : WS s) {c e : Nat} (hc : c < 9) (he : e < 10) : WS (trE s c e) := by
  refine ⟨fun l hl => by rw [trE_l s c e hl]; exact h.1 l hl, fun a ha => ?_⟩
  have h1 := h.2 a ha
  by_cases q : a = c
  · subst q
    rw [trE_k, trE_b]
    have h2 : trE s a e (21 + a) = s (21 + a) := by unfold trE; rw [uN_n (by omega), uN_n (by omega)]
    rw [h2]
    unfold kdE byE
    split <;> refine ⟨by omega, by omega, h1.2.2.1, by omega⟩
  · have h2 : trE s c e (21 + a) = s (21 + a) := by unfold trE; rw [uN_n (by omega), uN_n (by omega)]
    have h3 : trE s c e (12 + a) = s (12 + a) := by unfold trE; rw [uN_n (by omega), uN_n (by omega)]
    have h4 : trE s c e (3 + a) = s (3 + a) := by unfold trE; rw [uN_n (by omega), uN_n (by omega)]
    rw [h2, h3, h4]
    exact h1
theorem lcmp_0 {x y : Int64} : lg_cmp x y = 0 ↔ x = y := by
  unfold lg_cmp
  constructor
  · intro h
    split at h
    · exact absurd h (by decide)
    · split at h
      · assumption
      · exact absurd h (by decide)
  · intro h
    rw [if_neg (by rw [h]; simp [Int64.lt_iff_toInt_lt]), if_pos h]
theorem exB_cl {f : Nat → Bool} {n m : Nat} (h : n = m ∨ (n = 1 ∧ m ≤ 1)) : exB (fun k => decide (1 ≤ k) && f k) m = exB (fun k => decide (1 ≤ k) && f k) n := by
  rcases h with h | ⟨h, h2⟩
  · rw [h]
  · rcases (show m = 0 ∨ m = 1 by omega) with q | q
    · rw [h, q]; simp [exB]
    · rw [h, q]
theorem WS_st {s : Nat → Nat} (h : WS s) {c v : Nat} (hc : c < 9) (hv : v < 3) : WS (uN s (21 + c) v) := by
  refine ⟨fun l hl => by rw [uN_n (by omega)]; exact h.1 l hl, fun a ha => ?_⟩
  have h1 := h.2 a ha
  rw [uN_n (show 3 + a ≠ 21 + c by omega), uN_n (show 12 + a ≠ 21 + c by omega)]
  by_cases q : a = c
  · subst q
    rw [uN_s]
    exact ⟨h1.1, h1.2.1, hv, h1.2.2.2⟩
  · rw [uN_n (by omega)]
    exact h1
