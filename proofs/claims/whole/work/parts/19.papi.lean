def rmL (t s : Nat → Nat) (g : Nat) (w p : Nat → Nat) (d : Nat) : List (List Nat) := remL t s g w p (if w (d - 1) = g then d - 1 else d)
theorem rmL_0 {t s : Nat → Nat} {l : Nat} (w p : Nat → Nat) (h : 0 < t (39 + l)) : rmL t s (t (39 + l)) (uN w 0 0) (uN p 0 0) 1 = pAll t s l := by
  unfold rmL pAll
  rw [if_neg (by rw [show 1 - 1 = 0 from rfl, uN_s]; omega), pF_s, if_neg (by omega), remL, remL, preL, List.append_nil, uN_s, uN_s, vsN, vsN, uN_s]
  simp
theorem VP_0 {t : Nat → Nat} (hT : WT t) (w p : Nat → Nat) : VP t (uN w 0 0) (uN p 0 0) 1 := by
  have h1 := hT.n
  refine ⟨by omega, fun i hi => ?_, fun i j hij hj => absurd hij (by omega)⟩
  rw [show i = 0 by omega, uN_s, uN_s]
  exact ⟨by omega, by omega, fun h => absurd h (by omega)⟩
theorem rmL_g {t s : Nat → Nat} {g : Nat} {w p : Nat → Nat} {d : Nat} (h : w (d - 1) = g) : rmL t s g w p d = remL t s g w p (d - 1) := by
  unfold rmL
  rw [if_pos h]
def bitL (p : List Nat) : Nat := p.foldl (fun z c => z ||| 2 ^ c) 0
theorem bitL_a (p : List Nat) (c : Nat) : bitL (p ++ [c]) = bitL p ||| 2 ^ c := by
  unfold bitL
  rw [List.foldl_append]
  rfl
def shP (t s : Nat → Nat) (p : List Nat) : Nat := bsN (fun st => p.all (fun c => shB t s c st)) 16
def paQ (t s : Nat → Nat) (l k w : Int32) : Int32 := if (inR l (t 2) && decide (0 ≤ k.toInt) && inR w 3) = false then -1 else match (pAll t s l.toNatClampNeg)[k.toNatClampNeg]? with
  | none => -9
  | some p => if w = nI 0 then nI (bitL p) else if w = nI 1 then nI p.length else nI (shP t s p)
def stp1 (t s : Nat → Nat) (st : Nat) (b : Option (List Nat)) (p : List Nat) : Option (List Nat) := match b with
  | none => if (shP t s p).testBit st = true then some p else none
  | some q => if p.length < q.length ∧ (shP t s p).testBit st = true then some p else some q
def stB (t s : Nat → Nat) (l st : Nat) : Option (List Nat) := (pAll t s l).foldl (stp1 t s st) none
def stQ (t s : Nat → Nat) (l st k : Int32) : Int32 := if (inR l (t 2) && inR st 16 && decide (-1 ≤ k.toInt)) = false then -1 else match stB t s l.toNatClampNeg st.toNatClampNeg with
  | none => -9
  | some p => if k.toInt < 0 then nI p.length else match p[k.toNatClampNeg]? with
    | none => -9
    | some c => nI c
def loQ (t s : Nat → Nat) (l w : Int32) : Int32 := if (inR l (t 2) && inR w 6) = false then -1 else if w = nI 0 then nI (t (39 + l.toNatClampNeg)) else if w = nI 1 then nI (fedN t s l.toNatClampNeg) else if w = nI 2 then nI (s l.toNatClampNeg) else if w = nI 3 then nI (anN (fedN t s l.toNatClampNeg) (s l.toNatClampNeg)) else if w = nI 4 then nI (anN (s l.toNatClampNeg) (fedN t s l.toNatClampNeg)) else nI (pAll t s l.toNatClampNeg).length
/-- the contacts of a path are the net's, its bits, its states -/
theorem preL_get {sp : Nat → Nat} : ∀ {i k : Nat}, k < i → (preL sp i)[k]? = some (sp k - 1)
  | 0, k, h => absurd h (by omega)
  | i + 1, k, h => by
    rw [preL]
    rcases Nat.lt_or_ge k i with q | q
    · rw [List.getElem?_append_left (by rw [preL_len]; exact q), preL_get q]
    · rw [List.getElem?_append_right (by rw [preL_len]; omega), preL_len, show k - i = 0 by omega, show k = i by omega]
      rfl
theorem drop_cons {α : Type} {L R : List α} {x : α} {n : Nat} (h : L.drop n = x :: R) : L[n]? = some x ∧ L.drop (n + 1) = R ∧ n < L.length := by
  have h1 : (L.drop n)[0]? = some x := by rw [h]; rfl
  rw [List.getElem?_drop] at h1
  refine ⟨h1, ?_, ?_⟩
  · rw [← List.drop_drop, h]; rfl
  · have := List.getElem?_eq_some_iff.mp h1
    obtain ⟨q, -⟩ := this
    omega
theorem drop_nil {α : Type} {L : List α} {n : Nat} (h : L.drop n = []) : L[n]? = none := by
  have := List.drop_eq_nil_iff.mp h
  exact List.getElem?_eq_none this
def RB (res : Option (List Nat)) (le : Nat) (be : Nat → Nat) : Prop := match res with
  | none => le = 99
  | some q => le = q.length ∧ q.length ≤ 6 ∧ ∀ i, i < q.length → q[i]? = some (be i)
/-- a path that isn't better; one that is -/
theorem RB_no {t s : Nat → Nat} {st le : Nat} {res : Option (List Nat)} {be : Nat → Nat} {p : List Nat} (h : RB res le be) (h2 : le ≤ p.length ∨ (shP t s p).testBit st = false) (h6 : p.length ≤ 6) : stp1 t s st res p = res := by
  cases res with
  | none =>
    have h3 : le = 99 := h
    have h4 : (shP t s p).testBit st = false := by rcases h2 with q | q; omega; exact q
    simp only [stp1]
    rw [if_neg (by rw [h4]; decide)]
  | some q =>
    have h3 : le = q.length := h.1
    simp only [stp1]
    rw [if_neg]
    rintro ⟨a, b⟩
    rcases h2 with x | x
    · omega
    · rw [x] at b; cases b
theorem RB_yes {t s : Nat → Nat} {st le : Nat} {res : Option (List Nat)} {be : Nat → Nat} {p : List Nat} (h : RB res le be) (h2 : p.length < le) (h3 : (shP t s p).testBit st = true) : stp1 t s st res p = some p := by
  cases res with
  | none =>
    simp only [stp1]
    rw [if_pos h3]
  | some q =>
    have h4 : le = q.length := h.1
    simp only [stp1]
    rw [if_pos ⟨by omega, h3⟩]
