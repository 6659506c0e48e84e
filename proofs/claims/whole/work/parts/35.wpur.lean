/-! the class's walk over all paths -/
def selP (t s : Nat → Nat) (wp : Int32) : Nat → List (List Nat) → Int32 × Int32 × Int32 → Int32 × Int32 × Int32
  | _, [], o => o
  | f, p :: L, o => selP t s wp (f + 1) L (if nI f = wp then (nI (bitL p), nI p.length, nI (shP t s p)) else o)
theorem selP_app (t s : Nat → Nat) (wp : Int32) : ∀ (L1 L2 : List (List Nat)) (f : Nat) (o : Int32 × Int32 × Int32), selP t s wp f (L1 ++ L2) o = selP t s wp (f + L1.length) L2 (selP t s wp f L1 o)
  | [], L2, f, o => rfl
  | p :: L1, L2, f, o => by
    rw [List.cons_append, selP, selP, selP_app t s wp L1 L2, List.length_cons, show f + 1 + L1.length = f + (L1.length + 1) by omega]
theorem selP_no {t s : Nat → Nat} {k : Nat} : ∀ {L : List (List Nat)} {f : Nat} {o : Int32 × Int32 × Int32}, k < 2147483648 → f + L.length ≤ 2147483648 → (k < f ∨ f + L.length ≤ k) → selP t s (nI k) f L o = o
  | [], f, o, _, _, _ => rfl
  | p :: L, f, o, hk, hl, h => by
    rw [List.length_cons] at hl h
    rw [selP, if_neg (fun q => by have := (nI_eq (by omega) hk).mp q; omega)]
    exact selP_no hk (by omega) (by omega)
theorem selP_at {t s : Nat → Nat} {k : Nat} {p : List Nat} : ∀ {L : List (List Nat)} {f : Nat} {o : Int32 × Int32 × Int32}, k < 2147483648 → f + L.length ≤ 2147483648 → f ≤ k → L[k - f]? = some p → selP t s (nI k) f L o = (nI (bitL p), nI p.length, nI (shP t s p))
  | [], f, o, _, _, _, h => by simp at h
  | p' :: L, f, o, hk, hl, hf, h => by
    rw [List.length_cons] at hl
    rw [selP]
    by_cases q : f = k
    · subst q
      rw [Nat.sub_self] at h
      cases h
      rw [if_pos rfl]
      exact selP_no hk (by omega) (by omega)
    · rw [show k - f = (k - (f + 1)) + 1 by omega, List.getElem?_cons_succ] at h
      exact selP_at hk (by omega) (by omega) h
theorem shP_lt (t s : Nat → Nat) (p : List Nat) : shP t s p < 65536 := bsN_lt _ 16
theorem shP_a {t s : Nat → Nat} {p : List Nat} {c v : Nat} (hv : v < 65536) (h : ∀ st, st < 16 → v.testBit st = shB t s c st) : shP t s p &&& v = shP t s (p ++ [c]) := by
  apply Nat.eq_of_testBit_eq
  intro i
  unfold shP
  rw [Nat.testBit_and, bsN_bit, bsN_bit, List.all_append]
  by_cases q : i < 16
  · rw [h i q, decide_eq_true q]
    simp
  · rw [decide_eq_false q]
    simp
theorem pR_len {F : Nat → Nat → List (List Nat)} {t s : Nat → Nat} {vs a B : Nat} (hF : ∀ vs a, (F vs a).length ≤ B) : ∀ k, (pR F t s vs a k).length ≤ k * B
  | 0 => by simp [pR]
  | k + 1 => by
    have h := pR_len hF (t := t) (s := s) (vs := vs) (a := a) k
    rw [pR, List.length_append, Nat.succ_mul]
    split
    · rw [List.length_nil]; omega
    · rename_i v _
      rw [List.length_map]
      have := hF (vs ||| 2 ^ v) v
      omega
theorem pF_len {t s : Nat → Nat} {g : Nat} (hT : WT t) : ∀ f vs a, (pF t s g f vs a).length ≤ 9 ^ f
  | 0, vs, a => by simp [pF]
  | f + 1, vs, a => by
    have h1 := hT.n
    rw [pF_s, Nat.pow_succ]
    have hp : 0 < 9 ^ f := Nat.pow_pos (by decide)
    split
    · rw [List.length_singleton]; omega
    · have h := pR_len (F := pF t s g f) (t := t) (s := s) (vs := vs) (a := a) (fun vs a => pF_len hT f vs a) (t 1)
      have h2 : t 1 * 9 ^ f ≤ 9 * 9 ^ f := Nat.mul_le_mul_right _ (by omega)
      rw [Nat.mul_comm (9 ^ f) 9]
      omega
theorem pAll_len {t s : Nat → Nat} {l : Nat} (hT : WT t) : (pAll t s l).length ≤ 4782969 := pF_len hT 7 1 0
/-- nodes on the way: in the net and apart -/
def VW (t wh : Nat → Nat) (d : Nat) : Prop := (∀ i, i ≤ d → wh i < t 0) ∧ (∀ i j, i < j → j ≤ d → wh i ≠ wh j)
theorem VW_6 {t wh : Nat → Nat} {d : Nat} (hT : WT t) (h : VW t wh d) : d ≤ 6 := by
  have h1 := hT.n
  have := holes7 (wh := wh) (n := d + 1) (fun i hi => by have := h.1 i (by omega); omega) (fun i j hij hj => h.2 i j hij (by omega))
  omega
theorem VW_push {t wh : Nat → Nat} {d v : Nat} (h : VW t wh d) (hv : v < t 0) (hf : (vsN wh (d + 1)).testBit v = false) : VW t (uN wh (d + 1) v) (d + 1) := by
  have hfr := vs_free hf
  constructor
  · intro i hi
    by_cases q : i = d + 1
    · rw [q, uN_s]; exact hv
    · rw [uN_n q]; exact h.1 i (by omega)
  · intro i j hij hj
    by_cases q : j = d + 1
    · rw [q, uN_s, uN_n (by omega)]
      exact hfr i (by omega)
    · rw [uN_n q, uN_n (by omega)]
      exact h.2 i j hij (by omega)
theorem vsN_push (wh : Nat → Nat) (d v : Nat) : vsN wh (d + 1) ||| 2 ^ v = vsN (uN wh (d + 1) v) (d + 1 + 1) := by
  rw [vsN.eq_2 (uN wh (d + 1) v) (d + 1), uN_s, ← vsN_cong (fun k hk => (uN_n (show k ≠ d + 1 by omega)).symm)]
theorem pR_c {F : Nat → Nat → List (List Nat)} {t s : Nat → Nat} {vs a c : Nat} (hc : c < t 1) (h : nxB t s vs a c = none) : pR F t s vs a (t 1 - c) = pR F t s vs a (t 1 - (c + 1)) := by
  rw [show t 1 - c = (t 1 - (c + 1)) + 1 by omega, pR, show t 1 - (t 1 - (c + 1) + 1) = c by omega, h]
  rfl
theorem pR_d {F : Nat → Nat → List (List Nat)} {t s : Nat → Nat} {vs a c v : Nat} (hc : c < t 1) (h : nxB t s vs a c = some v) : pR F t s vs a (t 1 - c) = (F (vs ||| 2 ^ v) v).map (fun p => c :: p) ++ pR F t s vs a (t 1 - (c + 1)) := by
  rw [show t 1 - c = (t 1 - (c + 1)) + 1 by omega, pR, show t 1 - (t 1 - (c + 1) + 1) = c by omega, h]
/-- the best so far, as the class keeps it -/
def RC9 (res : Option (List Nat)) (fw : Nat) (stl : Nat → Nat) : Prop := match res with
  | none => fw = 0
  | some q => fw = q.length ∧ 1 ≤ q.length ∧ q.length ≤ 7 ∧ ∀ i, i < q.length → q[i]? = some (stl i)
theorem vsN_lt {wh : Nat → Nat} : ∀ {d : Nat}, (∀ i, i < d → wh i < 7) → vsN wh d < 2 ^ 7
  | 0, _ => by simp [vsN]
  | d + 1, h => by
    rw [vsN]
    exact or_lt (vsN_lt (fun i hi => h i (by omega))) (p2_lt (h d (by omega)))
theorem RC9_fw {res : Option (List Nat)} {fw : Nat} {stl : Nat → Nat} (h : RC9 res fw stl) : fw ≤ 7 := by
  cases res with
  | none => have : fw = 0 := h; omega
  | some q => have := h.1; have := h.2.2.1; omega
theorem RC9_arr {t s tr stl stl1 : Nat → Nat} {st fw fw1 : Nat} {res : Option (List Nat)} {p : List Nat} (h : RC9 res fw stl) (h1 : 1 ≤ p.length) (h7 : p.length ≤ 7) (htr : ∀ i, i < p.length → p[i]? = some (tr i)) (hf : ((shP t s p).testBit st = true ∧ (fw = 0 ∨ p.length < fw) ∧ fw1 = p.length ∧ stl1 = cpN tr stl 0 0 p.length) ∨ (¬ ((shP t s p).testBit st = true ∧ (fw = 0 ∨ p.length < fw)) ∧ fw1 = fw ∧ stl1 = stl)) : RC9 (stp1 t s st res p) fw1 stl1 := by
  rcases hf with ⟨a, b, rfl, rfl⟩ | ⟨a, rfl, rfl⟩
  · have e : stp1 t s st res p = some p := by
      cases res with
      | none => simp only [stp1]; rw [if_pos a]
      | some q =>
        have h2 : fw = q.length := h.1
        have h3 := h.2.1
        simp only [stp1]
        rw [if_pos ⟨by omega, a⟩]
    rw [e]
    exact ⟨rfl, h1, h7, fun i hi => by rw [htr i hi, cpN_in hi]⟩
  · have e : stp1 t s st res p = res := by
      cases res with
      | none =>
        have h2 : fw1 = 0 := h
        simp only [stp1]
        rw [if_neg (fun q => a ⟨q, Or.inl h2⟩)]
      | some q =>
        have h2 : fw1 = q.length := h.1
        simp only [stp1]
        rw [if_neg (fun z => a ⟨z.2, Or.inr (by omega)⟩)]
    rw [e]
    exact h
theorem shP_nil (t s : Nat → Nat) : 65535 = shP t s [] := by
  unfold shP
  simp only [List.all_nil]
  decide
