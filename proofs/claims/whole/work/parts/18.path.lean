/-! paths: where a contact leads, all paths in their order -/
def toB (t s : Nat → Nat) (c a : Nat) : Option Nat := if t (12 + c) = a ∧ wyB t s c false = true then some (t (21 + c)) else if t (21 + c) = a ∧ wyB t s c true = true then some (t (12 + c)) else none
def nxB (t s : Nat → Nat) (vs a c : Nat) : Option Nat := match toB t s c a with
  | none => none
  | some v => if vs.testBit v = true then none else some v
/-- the paths that begin with the last k contacts, F those from a node on -/
def pR (F : Nat → Nat → List (List Nat)) (t s : Nat → Nat) (vs a : Nat) : Nat → List (List Nat)
  | 0 => []
  | k + 1 => (match nxB t s vs a (t 1 - (k + 1)) with
    | none => []
    | some v => (F (vs ||| 2 ^ v) v).map (fun p => (t 1 - (k + 1)) :: p)) ++ pR F t s vs a k
def pF (t s : Nat → Nat) (g : Nat) : Nat → Nat → Nat → List (List Nat)
  | 0 => fun _ _ => []
  | f + 1 => fun vs a => if a = g then [[]] else pR (pF t s g f) t s vs a (t 1)
theorem pF_s (t s : Nat → Nat) (g f vs a : Nat) : pF t s g (f + 1) vs a = if a = g then [[]] else pR (pF t s g f) t s vs a (t 1) := rfl
/-- all paths of a load -/
def pAll (t s : Nat → Nat) (l : Nat) : List (List Nat) := pF t s (t (39 + l)) 7 1 0
theorem toB_lt {t s : Nat → Nat} (hT : WT t) {c a v : Nat} (hc : c < t 1) (h : toB t s c a = some v) : v < t 0 := by
  have h1 := hT.c hc
  unfold toB at h
  split at h
  · cases h; exact h1.2.2.1
  · split at h
    · cases h; exact h1.2.1
    · cases h
theorem nxB_to {t s : Nat → Nat} {vs a c v : Nat} (h : nxB t s vs a c = some v) : toB t s c a = some v ∧ vs.testBit v = false := by
  unfold nxB at h
  split at h
  · cases h
  · rename_i u hu
    split at h
    · cases h
    · cases h; exact ⟨hu, by simp_all⟩
theorem nxB_no {t s : Nat → Nat} {vs a c : Nat} (h : toB t s c a = none) : nxB t s vs a c = none := by
  unfold nxB
  rw [h]
theorem nxB_vs {t s : Nat → Nat} {vs a c v : Nat} (h : toB t s c a = some v) (h2 : vs.testBit v = true) : nxB t s vs a c = none := by
  unfold nxB
  rw [h]
  simp [h2]
theorem nxB_ok {t s : Nat → Nat} {vs a c v : Nat} (h : toB t s c a = some v) (h2 : vs.testBit v = false) : nxB t s vs a c = some v := by
  unfold nxB
  rw [h]
  simp [h2]
theorem pR_no {F : Nat → Nat → List (List Nat)} {t s : Nat → Nat} {vs a : Nat} : ∀ {k : Nat}, (∀ c, t 1 - k ≤ c → c < t 1 → nxB t s vs a c = none) → k ≤ t 1 → pR F t s vs a k = []
  | 0, _, _ => rfl
  | k + 1, h, hk => by
    rw [pR, h (t 1 - (k + 1)) (Nat.le_refl _) (by omega), pR_no (fun c h1 h2 => h c (by omega) h2) (by omega)]
    rfl
/-- the first contact that leads on -/
theorem pR_yes {F : Nat → Nat → List (List Nat)} {t s : Nat → Nat} {vs a c v : Nat} (hc : c < t 1) (hv : nxB t s vs a c = some v) : ∀ {k : Nat}, t 1 - k ≤ c → k ≤ t 1 → (∀ b, t 1 - k ≤ b → b < c → nxB t s vs a b = none) → pR F t s vs a k = (F (vs ||| 2 ^ v) v).map (fun p => c :: p) ++ pR F t s vs a (t 1 - (c + 1))
  | 0, h, _, _ => absurd h (by omega)
  | k + 1, h, hk, hn => by
    by_cases q : t 1 - (k + 1) = c
    · rw [pR, q, hv, show t 1 - (c + 1) = k by omega]
    · rw [pR, hn (t 1 - (k + 1)) (Nat.le_refl _) (by omega), List.nil_append]
      exact pR_yes hc hv (by omega) (by omega) (fun b h1 h2 => hn b (by omega) h2)
/-- the nodes of the first frames as a set; the contacts that lead to frame i -/
def vsN (wh : Nat → Nat) : Nat → Nat
  | 0 => 0
  | i + 1 => vsN wh i ||| 2 ^ wh i
def preL (sp : Nat → Nat) : Nat → List Nat
  | 0 => []
  | i + 1 => preL sp i ++ [sp i - 1]
/-- what is still to come, of d frames: where they stand, the contacts that they try next -/
def remL (t s : Nat → Nat) (g : Nat) (wh sp : Nat → Nat) : Nat → List (List Nat)
  | 0 => []
  | i + 1 => (pR (pF t s g (6 - i)) t s (vsN wh (i + 1)) (wh i) (t 1 - sp i)).map (fun p => preL sp i ++ p) ++ remL t s g wh sp i
def muN (sp : Nat → Nat) : Nat → Nat
  | 0 => 0
  | i + 1 => muN sp i + (10 - sp i) * 11 ^ (7 - i)
theorem vsN_cong {wh wh' : Nat → Nat} : ∀ {i : Nat}, (∀ k, k < i → wh k = wh' k) → vsN wh i = vsN wh' i
  | 0, _ => rfl
  | i + 1, h => by rw [vsN, vsN, vsN_cong (fun k hk => h k (by omega)), h i (by omega)]
theorem preL_cong {sp sp' : Nat → Nat} : ∀ {i : Nat}, (∀ k, k < i → sp k = sp' k) → preL sp i = preL sp' i
  | 0, _ => rfl
  | i + 1, h => by rw [preL, preL, preL_cong (fun k hk => h k (by omega)), h i (by omega)]
theorem muN_cong {sp sp' : Nat → Nat} : ∀ {i : Nat}, (∀ k, k < i → sp k = sp' k) → muN sp i = muN sp' i
  | 0, _ => rfl
  | i + 1, h => by rw [muN, muN, muN_cong (fun k hk => h k (by omega)), h i (by omega)]
theorem remL_cong {t s : Nat → Nat} {g : Nat} {wh sp wh' sp' : Nat → Nat} : ∀ {i : Nat}, (∀ k, k < i → wh k = wh' k) → (∀ k, k < i → sp k = sp' k) → remL t s g wh sp i = remL t s g wh' sp' i
  | 0, _, _ => rfl
  | i + 1, h, h2 => by rw [remL, remL, remL_cong (fun k hk => h k (by omega)) (fun k hk => h2 k (by omega)), h i (by omega), h2 i (by omega), vsN_cong h, preL_cong (fun k hk => h2 k (by omega))]
theorem preL_len (sp : Nat → Nat) : ∀ i, (preL sp i).length = i
  | 0 => rfl
  | i + 1 => by rw [preL, List.length_append, preL_len sp i]; rfl
theorem vsN_bit (wh : Nat → Nat) (v : Nat) : ∀ i, (vsN wh i).testBit v = exB (fun k => decide (wh k = v)) i
  | 0 => by simp [vsN, exB]
  | i + 1 => by
    rw [vsN, exB, Nat.testBit_or, vsN_bit wh v i]
    congr 1
    by_cases h : wh i = v
    · rw [h, Nat.testBit_two_pow_self, decide_eq_true rfl]
    · rw [Nat.testBit_two_pow_of_ne h, decide_eq_false h]
theorem exB_t {f : Nat → Bool} : ∀ {n : Nat}, exB f n = true ↔ ∃ k, k < n ∧ f k = true
  | 0 => by simp [exB]
  | n + 1 => by
    rw [exB, Bool.or_eq_true, exB_t]
    constructor
    · rintro (⟨k, h1, h2⟩ | h)
      · exact ⟨k, by omega, h2⟩
      · exact ⟨n, by omega, h⟩
    · rintro ⟨k, h1, h2⟩
      rcases Nat.lt_or_ge k n with q | q
      · exact Or.inl ⟨k, q, h2⟩
      · exact Or.inr (by rw [show n = k by omega]; exact h2)
/-- frames that may stand: in the net, apart, the first at 0 -/
def VP (t : Nat → Nat) (wh sp : Nat → Nat) (d : Nat) : Prop := d ≤ 7 ∧ (∀ i, i < d → wh i < t 0 ∧ sp i ≤ t 1 ∧ (i + 1 < d → 1 ≤ sp i)) ∧ (∀ i j, i < j → j < d → wh i ≠ wh j)
theorem holes7 {wh : Nat → Nat} {n : Nat} (h : ∀ i, i < n → wh i < 7) (h2 : ∀ i j, i < j → j < n → wh i ≠ wh j) : n ≤ 7 := by
  have key : ∀ (m n : Nat) (f : Nat → Nat), (∀ i, i < n → f i < m) → (∀ i j, i < j → j < n → f i ≠ f j) → n ≤ m := by
    intro m
    induction m with
    | zero =>
      intro n f h _
      rcases Nat.eq_zero_or_pos n with q | q
      · omega
      · exact absurd (h 0 q) (by omega)
    | succ m ih =>
      intro n f h h2
      rcases Nat.eq_zero_or_pos n with q | q
      · omega
      · have h3 := ih (n - 1) (fun i => if f i = m then f (n - 1) else f i) (fun i hi => by
          split
          · rename_i e
            have a := h (n - 1) (by omega)
            have b := h2 i (n - 1) (by omega) (by omega)
            omega
          · rename_i e
            have a := h i (by omega)
            omega) (fun i j hij hj => by
          have a := h2 i j hij (by omega)
          have b := h2 i (n - 1) (by omega) (by omega)
          have c := h2 j (n - 1) (by omega) (by omega)
          split <;> split <;> omega)
        omega
  exact key 7 n wh h h2
def mI (a : Nat) : Int32 := nI a - nI 1
def sA (g : Nat → Nat) : Nat → Int32 := fun j => mI (g j)
theorem mI_n {a : Nat} (h : 1 ≤ a) : mI a = nI (a - 1) := pk_sub h
theorem mI_i (a : Nat) : mI a + nI 1 = nI a := by
  unfold mI
  rw [Int32.sub_add_cancel]
theorem mI_d {a : Nat} (h : 1 ≤ a) : mI a - nI 1 = mI (a - 1) := by
  rw [mI_n h]
  rfl
theorem mI_s (a : Nat) : nI a = mI (a + 1) := by rw [mI_n (by omega)]; rfl
theorem upd_sA (g : Nat → Nat) (k v : Nat) : upd (sA g) k (mI v) = sA (uN g k v) := by
  funext j
  unfold upd sA uN
  split <;> rfl
theorem mI_lt {a : Nat} (h : a < 2147483648) : mI a < 0 ↔ a = 0 := by
  constructor
  · intro q
    rcases Nat.eq_zero_or_pos a with e | e
    · exact e
    · rw [mI_n e] at q
      exact absurd q (nI_pos (by omega))
  · intro q
    rw [q]
    decide +kernel
theorem n9 {v : Nat} (h : v < 2147483648) : ¬ nI v = -9 := by
  intro q
  have h2 := nI_pos h
  rw [q] at h2
  exact h2 (by decide +kernel)
section JP
variable {p : Program} {l : Launch} {e : Env} {R : Room} {s : State} {m : MethodId} {args : Array Value} {below : List Frame} {meth : Method} {c : Code} {cells slots : Nat} {Q : State → Prop} {D : va_G} {A : Nat → Prop} {nL : Nat} {cc : ByteArray} {own : String} {cyI cyZ cyO : ClassId} {w : va_W} {pc : Nat} {lv : List (Nat × Value)} {st : List Value}
theorem j_sald (C : Cx p R s m args c cc nL own D (cyI, cyZ, cyO) A) {a n j : Nat} {g : Nat → Nat} {pc' : Nat} (q0 : Nat) (he : w[q0]? = some (a, .inl (cyI, n, .inl (sA g)))) (hj : j < n) (hn : n < 2147483648) (hdg : decode cc pc = .ok (.iaload, 1)) (hp : pc + 1 = pc') (k : J p l e R s m args below meth c cells slots Q D A nL w pc' lv (.int (mI (g j)) :: st)) : J p l e R s m args below meth c cells slots Q D A nL w pc lv (.int (nI j) :: .ref a :: st) := j_iald C q0 he hj hn hdg hp k
theorem j_sast (C : Cx p R s m args c cc nL own D (cyI, cyZ, cyO) A) {a n j x : Nat} {g : Nat → Nat} {pc' : Nat} (w' : va_W) (q0 : Nat) (he : w[q0]? = some (a, .inl (cyI, n, .inl (sA g)))) (hj : j < n) (hn : n < 2147483648) (hdg : decode cc pc = .ok (.iastore, 1)) (hp : pc + 1 = pc') (hw : w.set q0 (a, .inl (cyI, n, .inl (sA (uN g j x)))) = w') (k : J p l e R s m args below meth c cells slots Q D A nL w' pc' lv st) : J p l e R s m args below meth c cells slots Q D A nL w pc lv (.int (mI x) :: .int (nI j) :: .ref a :: st) := j_iast C w' q0 he hj hn hdg hp (by rw [upd_sA]; exact hw) k
theorem j_m_lt (C : Cx p R s m args c cc nL own D (cyI, cyZ, cyO) A) {a : Nat} {off : Int} (tgt : Nat) {pc' : Nat} (hdg : decode cc pc = .ok (.ifCond .lt off, 3)) (ht : (pc : Int) + off = (tgt : Int)) (hp : pc + 3 = pc') (hx : a < 2147483648) (kt : a = 0 → J p l e R s m args below meth c cells slots Q D A nL w tgt lv st) (kf : 1 ≤ a → J p l e R s m args below meth c cells slots Q D A nL w pc' lv st) : J p l e R s m args below meth c cells slots Q D A nL w pc lv (.int (mI a) :: st) :=
  j_if_lt C tgt hdg ht hp (fun h => kt ((mI_lt hx).mp h)) (fun h => kf (Nat.pos_of_ne_zero (fun q => h ((mI_lt hx).mpr q))))
end JP
/-- a frame without a way on goes -/
theorem np_pop {t s : Nat → Nat} {g : Nat} {w p : Nat → Nat} {d c : Nat} (hT : WT t) (hV : VP t w p d) (hd : 1 ≤ d) (hno : ∀ b, p (d - 1) ≤ b → b < t 1 → nxB t s (vsN w d) (w (d - 1)) b = none) : VP t w (uN p (d - 1) c) (d - 1) ∧ remL t s g w p d = remL t s g w (uN p (d - 1) c) (d - 1) ∧ muN (uN p (d - 1) c) (d - 1) < muN p d := by
  have h1 := hT.n
  obtain ⟨k, rfl⟩ : ∃ k, d = k + 1 := ⟨d - 1, by omega⟩
  rw [Nat.add_sub_cancel] at hno ⊢
  have hk := hV.2.1 k (by omega)
  have hc : ∀ i, i < k → p i = uN p k c i := fun i hi => (uN_n (by omega)).symm
  refine ⟨⟨by have := hV.1; omega, fun i hi => ?_, fun i j hij hj => hV.2.2 i j hij (by omega)⟩, ?_, ?_⟩
  · have h2 := hV.2.1 i (by omega)
    rw [uN_n (by omega)]
    exact ⟨h2.1, h2.2.1, fun h3 => h2.2.2 (by omega)⟩
  · rw [remL, pR_no (fun b hb1 hb2 => hno b (by omega) hb2) (by omega), List.map_nil, List.nil_append]
    exact remL_cong (fun _ _ => rfl) hc
  · rw [muN, ← muN_cong hc]
    have : 0 < (10 - p k) * 11 ^ (7 - k) := Nat.mul_pos (by omega) (Nat.pow_pos (by decide))
    omega
theorem vs_free {w : Nat → Nat} {d v : Nat} (h : (vsN w d).testBit v = false) : ∀ i, i < d → w i ≠ v := by
  intro i hi e
  rw [vsN_bit] at h
  have h2 : exB (fun k => decide (w k = v)) d = true := exB_t.mpr ⟨i, hi, decide_eq_true e⟩
  rw [h] at h2
  cases h2
/-- a frame goes on by a contact -/
theorem np_push {t s : Nat → Nat} {g : Nat} {w p : Nat → Nat} {d c v : Nat} (hT : WT t) (hV : VP t w p d) (hd : 1 ≤ d) (hc1 : p (d - 1) < c) (hc2 : c ≤ t 1) (hv : nxB t s (vsN w d) (w (d - 1)) (c - 1) = some v) (hno : ∀ b, p (d - 1) ≤ b → b < c - 1 → nxB t s (vsN w d) (w (d - 1)) b = none) : VP t (uN w d v) (uN (uN p (d - 1) c) d 0) (d + 1) ∧ (v ≠ g → remL t s g w p d = remL t s g (uN w d v) (uN (uN p (d - 1) c) d 0) (d + 1)) ∧ (v = g → remL t s g w p d = preL (uN (uN p (d - 1) c) d 0) d :: remL t s g (uN w d v) (uN (uN p (d - 1) c) d 0) d) ∧ muN (uN (uN p (d - 1) c) d 0) (d + 1) < muN p d := by
  have h1 := hT.n
  obtain ⟨k, rfl⟩ : ∃ k, d = k + 1 := ⟨d - 1, by omega⟩
  rw [Nat.add_sub_cancel] at hno hc1 hv ⊢
  have hk := hV.2.1 k (by omega)
  have hto := nxB_to hv
  have hvl := toB_lt hT (by omega) hto.1
  have hfr := vs_free hto.2
  generalize hw' : uN w (k + 1) v = w'
  generalize hp' : uN (uN p k c) (k + 1) 0 = p'
  have ew : ∀ i, i < k + 1 → w i = w' i := fun i hi => by rw [← hw', uN_n (by omega)]
  have ewk : w' (k + 1) = v := by rw [← hw', uN_s]
  have ep : ∀ i, i < k → p i = p' i := fun i hi => by rw [← hp', uN_n (by omega), uN_n (by omega)]
  have epk : p' k = c := by rw [← hp', uN_n (by omega), uN_s]
  have epd : p' (k + 1) = 0 := by rw [← hp', uN_s]
  have hap : ∀ i j, i < j → j < k + 2 → w' i ≠ w' j := by
    intro i j hij hj
    rcases Nat.lt_or_ge j (k + 1) with q | q
    · rw [← ew i (by omega), ← ew j q]
      exact hV.2.2 i j hij q
    · rw [show j = k + 1 by omega, ewk, ← ew i (by omega)]
      exact hfr i (by omega)
  have hlt : ∀ i, i < k + 2 → w' i < t 0 := by
    intro i hi
    rcases Nat.lt_or_ge i (k + 1) with q | q
    · rw [← ew i q]; exact (hV.2.1 i q).1
    · rw [show i = k + 1 by omega, ewk]; exact hvl
  have h7 : k + 2 ≤ 7 := holes7 (fun i hi => by have := hlt i hi; omega) hap
  have e0 : remL t s g w p (k + 1) = (pF t s g (6 - k) (vsN w (k + 1) ||| 2 ^ v) v).map (fun q => preL p k ++ ((c - 1) :: q)) ++ remL t s g w' p' (k + 1) := by
    rw [remL, pR_yes (c := c - 1) (by omega) hv (by omega) (by omega) (fun b hb1 hb2 => hno b (by omega) hb2), List.map_append, List.map_map, List.append_assoc]
    congr 1
    rw [remL, ← remL_cong (i := k) (fun i hi => ew i (by omega)) ep, epk, show c - 1 + 1 = c by omega, ← ew k (by omega), ← vsN_cong ew, ← preL_cong ep]
  have e1 : preL p' (k + 1) = preL p k ++ [c - 1] := by rw [preL, epk, ← preL_cong ep]
  refine ⟨⟨h7, fun i hi => ⟨hlt i hi, ?_, ?_⟩, hap⟩, ?_, ?_, ?_⟩
  · rcases (show i < k ∨ i = k ∨ i = k + 1 by omega) with q | q | q
    · rw [← ep i q]; exact (hV.2.1 i (by omega)).2.1
    · rw [q, epk]; exact hc2
    · rw [q, epd]; omega
  · intro h2
    rcases (show i < k ∨ i = k by omega) with q | q
    · rw [← ep i q]; exact (hV.2.1 i (by omega)).2.2 (by omega)
    · rw [q, epk]; omega
  · intro hg
    have e2 : remL t s g w' p' (k + 1 + 1) = (pR (pF t s g (6 - (k + 1))) t s (vsN w' (k + 1 + 1)) (w' (k + 1)) (t 1 - p' (k + 1))).map (fun p => preL p' (k + 1) ++ p) ++ remL t s g w' p' (k + 1) := rfl
    have e3 : vsN w' (k + 1 + 1) = vsN w' (k + 1) ||| 2 ^ w' (k + 1) := rfl
    rw [e0, e2, e3, epd, ewk, e1, show 6 - k = (6 - (k + 1)) + 1 by omega, pF_s, if_neg hg, Nat.sub_zero, ← vsN_cong ew]
    simp only [List.append_assoc, List.singleton_append]
  · intro hg
    rw [e0, show 6 - k = (6 - (k + 1)) + 1 by omega, pF_s, if_pos hg, e1]
    rfl
  · rw [muN, muN, muN, epd, epk, ← muN_cong ep, show 7 - k = (7 - (k + 1)) + 1 by omega, Nat.pow_succ]
    have h8 : 0 < 11 ^ (7 - (k + 1)) := Nat.pow_pos (by decide)
    generalize 11 ^ (7 - (k + 1)) = P at h8
    have h9 : (10 - c) * (P * 11) + P * 11 ≤ (10 - p k) * (P * 11) := by
      rw [← Nat.succ_mul]
      exact Nat.mul_le_mul_right _ (by omega)
    omega
