/-! the class's own calls: what its tests say -/
theorem in_lo {x : Int32} {n : Nat} (h : x < 0) : inR x n = false := by
  rw [i_lt, i_0] at h
  exact decide_eq_false (by omega)
theorem in_hi {x : Int32} {n : Nat} (hn : n < 2147483648) (h : nI n ≤ x) : inR x n = false := by
  rw [i_le, nI_toInt hn] at h
  exact decide_eq_false (by omega)
theorem in_ok {x : Int32} {n : Nat} (hn : n < 2147483648) (h1 : ¬ x < 0) (h : ¬ nI n ≤ x) : inR x n = true := by
  rw [i_lt, i_0] at h1
  rw [i_le, nI_toInt hn] at h
  exact decide_eq_true (by omega)
theorem in_hi2 {x : Int32} {a : Nat} (hn : a < 2147483648) (h : ¬ x ≤ nI a) : inR x (a + 1) = false := by
  rw [i_le, nI_toInt hn] at h
  exact decide_eq_false (by omega)
theorem in_ok2 {x : Int32} {a : Nat} (hn : a < 2147483648) (h1 : ¬ x < 0) (h : x ≤ nI a) : inR x (a + 1) = true := by
  rw [i_lt, i_0] at h1
  rw [i_le, nI_toInt hn] at h
  exact decide_eq_true (by omega)
theorem in_hi3 {x : Int32} {a : Nat} (hn : a < 2147483648) (h : nI a < x) : inR x (a + 1) = false := by
  rw [i_lt, nI_toInt hn] at h
  exact decide_eq_false (by omega)
theorem in_ok3 {x : Int32} {a : Nat} (hn : a < 2147483648) (h1 : ¬ x < 0) (h : ¬ nI a < x) : inR x (a + 1) = true := by
  rw [i_lt, i_0] at h1
  rw [i_lt, nI_toInt hn] at h
  exact decide_eq_true (by omega)
theorem in_lt {x : Int32} {n : Nat} (hn : n < 2147483648) (h1 : ¬ x < 0) (h : x < nI n) : inR x n = true := by
  rw [i_lt, i_0] at h1
  rw [i_lt, nI_toInt hn] at h
  exact decide_eq_true (by omega)
theorem in_ge {x : Int32} {n : Nat} (hn : n < 2147483648) (h : ¬ x < nI n) : inR x n = false := by
  rw [i_lt, nI_toInt hn] at h
  exact decide_eq_false (by omega)
theorem RcK_fed {t s rc : Nat → Nat} (hT : WT t) (h : RcK rc (fun st => lvR t s st 0 (t 0))) {l : Nat} (hl : l < t 2) : rc (t (39 + l)) = fedN t s l := by
  have h1 := hT.n
  have h2 := hT.l hl
  apply Nat.eq_of_testBit_eq
  intro i
  unfold fedN
  rw [bsN_bit]
  rcases Nat.lt_or_ge i 16 with q | q
  · rw [decide_eq_true q, Bool.true_and]
    exact h.2 _ (by omega) i q
  · rw [decide_eq_false (by omega), Bool.false_and]
    exact lt_bits (n := 16) (h.1 _ (by omega)) q
/-- what can be undone: snapshots on the one side, what was there before on the other -/
def bkF (so wh va vb : Nat) (f : Nat → Nat) : Nat → Nat := if so = 0 then uN f wh va else if so = 1 then uN (uN f (3 + wh) va) (12 + wh) vb else uN f (21 + wh) va
def nxS (u : Nat → Nat) (n : Nat) (s : Nat → Nat) (i : Nat) : Nat → Nat := fun k => if i + 1 = n then s k else u (30 * (i + 1) + k)
def HI (u : Nat → Nat) (n : Nat) (s hs hw hv hb : Nat → Nat) : Prop := n ≤ 10 ∧ ∀ i, i < n → hs i < 3 ∧ hw i < 9 ∧ (hs i = 0 → hw i < 3) ∧ ∀ k, k < 30 → u (30 * i + k) = bkF (hs i) (hw i) (hv i) (hb i) (nxS u n s i) k
theorem bkF_cong {so wh va vb : Nat} {f g : Nat → Nat} {k : Nat} (h : f k = g k) : bkF so wh va vb f k = bkF so wh va vb g k := by
  unfold bkF uN
  split
  · simp only [h]
  · split <;> simp only [h]
theorem nU_top (u s : Nat → Nat) (n : Nat) {k : Nat} (hk : k < 30) : nU u s n (30 * nN n + k) = s k := by
  unfold nU
  rw [flN_i (by omega) (by omega)]
  congr 1
  omega
theorem nU_low (u s : Nat → Nat) {n : Nat} (hn : n ≤ 10) {i k : Nat} (hi : i < nN n) (hk : k < 30) : nU u s n (30 * i + k) = u (30 * (i + if n = 10 then 1 else 0) + k) := by
  unfold nU
  rw [flN_o (Or.inl (by omega))]
  unfold nN at hi
  by_cases q : n = 10
  · rw [if_pos q] at hi
    rw [if_pos q, if_pos q, flN_i (by omega) (by omega)]
    congr 1
    omega
  · rw [if_neg q, if_neg q]
    rfl
theorem shN_low (h : Nat → Nat) {n i v : Nat} (hi : i < nN n) : uN (shN h n) (nN n) v i = h (i + if n = 10 then 1 else 0) := by
  rw [uN_n (by omega)]
  unfold shN
  unfold nN at hi
  by_cases q : n = 10
  · rw [if_pos q] at hi
    rw [if_pos q, if_pos q]
    unfold cpN
    rw [if_pos (by omega)]
    congr 1
    omega
  · rw [if_neg q, if_neg q]
    rfl
theorem HI_note {u s s1 hs hw hv hb : Nat → Nat} {n so wh va vb : Nat} (h : HI u n s hs hw hv hb) (h1 : so < 3) (h2 : wh < 9) (h3 : so = 0 → wh < 3) (h4 : ∀ k, k < 30 → s k = bkF so wh va vb s1 k) : HI (nU u s n) (nN n + 1) s1 (uN (shN hs n) (nN n) so) (uN (shN hw n) (nN n) wh) (uN (shN hv n) (nN n) va) (uN (shN hb n) (nN n) vb) := by
  have hn := h.1
  have hN : nN n ≤ 9 ∧ (n = 10 → nN n = 9) ∧ (n ≠ 10 → nN n = n) := by unfold nN; split <;> omega
  refine ⟨by omega, fun i hi => ?_⟩
  by_cases q : i = nN n
  · subst q
    rw [uN_s, uN_s, uN_s, uN_s]
    refine ⟨h1, h2, h3, fun k hk => ?_⟩
    rw [nU_top u s n hk, h4 k hk]
    exact bkF_cong (by unfold nxS; rw [if_pos rfl])
  · have hi2 : i < nN n := by omega
    rw [shN_low hs hi2, shN_low hw hi2, shN_low hv hi2, shN_low hb hi2]
    obtain ⟨d, hd⟩ : ∃ d, (if n = 10 then 1 else 0) = d := ⟨_, rfl⟩
    have hdn : i + d < n ∧ nN n + d = n := by
      by_cases q2 : n = 10
      · rw [if_pos q2] at hd; have := hN.2.1 q2; omega
      · rw [if_neg q2] at hd; have := hN.2.2 q2; omega
    have h5 := h.2 (i + d) hdn.1
    rw [hd]
    refine ⟨h5.1, h5.2.1, h5.2.2.1, fun k hk => ?_⟩
    rw [nU_low u s hn hi2 hk, hd, h5.2.2.2 k hk]
    apply bkF_cong
    unfold nxS
    rw [if_neg (show ¬ i + 1 = nN n + 1 by omega)]
    by_cases q3 : i + 1 = nN n
    · rw [if_pos (by omega), q3, nU_top u s n hk]
    · rw [if_neg (by omega), nU_low u s hn (by omega) hk, hd]
      congr 1
      omega
theorem HI_undo {u s s1 hs hw hv hb : Nat → Nat} {n : Nat} (h : HI u n s hs hw hv hb) (hn : 1 ≤ n) (hs1 : ∀ k, k < 30 → s1 k = u (30 * (n - 1) + k)) : HI u (n - 1) s1 hs hw hv hb := by
  refine ⟨by have := h.1; omega, fun i hi => ?_⟩
  have h5 := h.2 i (by omega)
  refine ⟨h5.1, h5.2.1, h5.2.2.1, fun k hk => ?_⟩
  rw [h5.2.2.2 k hk]
  apply bkF_cong
  unfold nxS
  rw [if_neg (by omega)]
  by_cases q : i + 1 = n - 1
  · rw [if_pos q, hs1 k hk, q]
  · rw [if_neg q]
theorem HI_0 {u s hs hw hv hb : Nat → Nat} : HI u 0 s hs hw hv hb := ⟨by omega, fun i hi => absurd hi (by omega)⟩
theorem HI_s {u s s1 hs hw hv hb : Nat → Nat} {n : Nat} (h : HI u n s hs hw hv hb) (he : ∀ k, k < 30 → s1 k = s k) : HI u n s1 hs hw hv hb := by
  refine ⟨h.1, fun i hi => ?_⟩
  have h5 := h.2 i hi
  refine ⟨h5.1, h5.2.1, h5.2.2.1, fun k hk => ?_⟩
  rw [h5.2.2.2 k hk]
  apply bkF_cong
  unfold nxS
  split
  · exact (he k hk).symm
  · rfl
/-- the class's setting follows -/
theorem RS_w {s wi cu cb sk : Nat → Nat} (h : RS s wi cu cb sk) {l v : Nat} (hl : l < 3) : RS (uN s l v) (uN wi l v) cu cb sk := by
  refine ⟨fun a ha => ?_, fun c hc => ?_⟩
  · by_cases q : a = l
    · rw [q, uN_s, uN_s]
    · rw [uN_n q, uN_n q]; exact h.1 a ha
  · rw [uN_n (by omega), uN_n (by omega), uN_n (by omega)]; exact h.2 c hc
theorem RS_c {s wi cu cb sk : Nat → Nat} (h : RS s wi cu cb sk) {c k b : Nat} (hc : c < 9) : RS (uN (uN s (3 + c) k) (12 + c) b) wi (uN cu c k) (uN cb c b) sk := by
  refine ⟨fun a ha => ?_, fun a ha => ?_⟩
  · rw [uN_n (by omega), uN_n (by omega)]; exact h.1 a ha
  · have h2 := h.2 a ha
    by_cases q : a = c
    · subst q
      rw [uN_s, uN_s, uN_n (by omega), uN_s, uN_s, uN_n (by omega), uN_n (by omega)]
      exact ⟨rfl, rfl, h2.2.2⟩
    · repeat rw [uN_n (by omega)]
      exact h2
theorem RS_k {s wi cu cb sk : Nat → Nat} (h : RS s wi cu cb sk) {c k : Nat} (hc : c < 9) : RS (uN s (21 + c) k) wi cu cb (uN sk c k) := by
  refine ⟨fun a ha => ?_, fun a ha => ?_⟩
  · rw [uN_n (by omega)]; exact h.1 a ha
  · have h2 := h.2 a ha
    by_cases q : a = c
    · subst q
      rw [uN_n (by omega), uN_n (by omega), uN_s, uN_s]
      exact ⟨h2.1, h2.2.1, rfl⟩
    · repeat rw [uN_n (by omega)]
      exact h2
theorem RS_cong {s s1 wi cu cb sk : Nat → Nat} (h : RS s wi cu cb sk) (he : ∀ k, k < 30 → s1 k = s k) : RS s1 wi cu cb sk := by
  refine ⟨fun a ha => ?_, fun a ha => ?_⟩
  · rw [he a (by omega)]; exact h.1 a ha
  · rw [he (3 + a) (by omega), he (12 + a) (by omega), he (21 + a) (by omega)]; exact h.2 a ha
theorem RS_TB {u s hs hw hv hb wi cu cb sk wi1 cu1 cb1 sk1 : Nat → Nat} {n : Nat} (h : HI u n s hs hw hv hb) (hn : 1 ≤ n) (hR : RS s wi cu cb sk) (hT : TB (hs (n - 1)) (hw (n - 1)) (hv (n - 1)) (hb (n - 1)) wi cu cb sk wi1 cu1 cb1 sk1) : RS (snp u (30 * (n - 1)) s) wi1 cu1 cb1 sk1 := by
  have h5 := h.2 (n - 1) (by omega)
  have he : ∀ k, k < 30 → snp u (30 * (n - 1)) s k = bkF (hs (n - 1)) (hw (n - 1)) (hv (n - 1)) (hb (n - 1)) s k := by
    intro k hk
    unfold snp
    rw [flN_i (Nat.zero_le _) (by omega), Nat.sub_zero, h5.2.2.2 k hk]
    exact bkF_cong (by unfold nxS; rw [if_pos (by omega)])
  refine RS_cong (s := bkF (hs (n - 1)) (hw (n - 1)) (hv (n - 1)) (hb (n - 1)) s) ?_ he
  unfold bkF
  rcases hT with ⟨q, rfl, rfl, rfl, rfl⟩ | ⟨q, rfl, rfl, rfl, rfl⟩ | ⟨q, rfl, rfl, rfl, rfl⟩
  · rw [if_pos q]; exact RS_w hR (h5.2.2.1 q)
  · rw [if_neg (by omega), if_pos q]; exact RS_c hR h5.2.1
  · rw [if_neg (by omega), if_neg (by omega)]; exact RS_k hR h5.2.1
theorem bk_w {s : Nat → Nat} {l v : Nat} : ∀ k, k < 30 → s k = bkF 0 l (s l) 0 (uN s l v) k := by
  intro k _
  unfold bkF uN
  rw [if_pos rfl]
  by_cases q : k = l
  · rw [if_pos q, q]
  · rw [if_neg q, if_neg q]
theorem bk_c {s : Nat → Nat} {c v b : Nat} : ∀ k, k < 30 → s k = bkF 1 c (s (3 + c)) (s (12 + c)) (uN (uN s (3 + c) v) (12 + c) b) k := by
  intro k _
  unfold bkF uN
  rw [if_neg (by decide), if_pos rfl]
  by_cases q : k = 12 + c
  · rw [if_pos q, q]
  · rw [if_neg q]
    by_cases q2 : k = 3 + c
    · rw [if_pos q2, q2]
    · rw [if_neg q2, if_neg q, if_neg q2]
theorem bk_k {s : Nat → Nat} {c v : Nat} : ∀ k, k < 30 → s k = bkF 2 c (s (21 + c)) 0 (uN s (21 + c) v) k := by
  intro k _
  unfold bkF uN
  rw [if_neg (by decide), if_neg (by decide)]
  by_cases q : k = 21 + c
  · rw [if_pos q, q]
  · rw [if_neg q, if_neg q]
theorem WS_s0 : WS s0N := by
  have h := WS_fl (f := fun _ => 0) (fun _ => by decide) (i := 0) (by decide)
  rwa [flN_0] at h
theorem RC9_none {res : Option (List Nat)} {fw : Nat} {stl : Nat → Nat} (h : RC9 res fw stl) (h0 : fw = 0) : res = none := by
  cases res with
  | none => rfl
  | some q => have h1 := h.1; have h2 := h.2.1; omega
theorem RC9_some {res : Option (List Nat)} {fw : Nat} {stl : Nat → Nat} (h : RC9 res fw stl) (h0 : ¬ fw = 0) : ∃ p, res = some p ∧ p.length = fw ∧ ∀ i, i < fw → p[i]? = some (stl i) := by
  cases res with
  | none => exact absurd h h0
  | some q =>
    have h1 : fw = q.length := h.1
    refine ⟨q, rfl, h1.symm, fun i hi => h.2.2.2 i (by omega)⟩
theorem st_out {k : Int32} {p : List Nat} (h : (p.length : Int) ≤ k.toInt) : (match p[k.toNatClampNeg]? with | none => (-9 : Int32) | some c => nI c) = -9 := by
  obtain ⟨j, hj, rfl⟩ := nI_of (x := k) (fun q => by rw [i_lt, i_0] at q; omega)
  rw [nI_toInt hj] at h
  rw [nI_clamp hj, List.getElem?_eq_none (by omega)]
