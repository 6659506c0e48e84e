theorem fa_and (a b : Nat) : nI a &&& nI b = nI (a &&& b) := by
  apply Int32.toBitVec_inj.1
  show BitVec.ofNat 32 a &&& BitVec.ofNat 32 b = BitVec.ofNat 32 (a &&& b)
  apply BitVec.eq_of_getLsbD_eq
  intro i hi
  simp [hi]
theorem fa_or (a b : Nat) : nI a ||| nI b = nI (a ||| b) := by
  apply Int32.toBitVec_inj.1
  show BitVec.ofNat 32 a ||| BitVec.ofNat 32 b = BitVec.ofNat 32 (a ||| b)
  apply BitVec.eq_of_getLsbD_eq
  intro i hi
  simp [hi]
theorem fb_xorI (a b : Nat) : nI a ^^^ nI b = nI (a ^^^ b) := by
  apply Int32.toBitVec_inj.1
  show BitVec.ofNat 32 a ^^^ BitVec.ofNat 32 b = BitVec.ofNat 32 (a ^^^ b)
  apply BitVec.eq_of_getLsbD_eq
  intro i hi
  simp [hi]
theorem s_l : ∀ n, n < 32 → ((nI n &&& 31).toBitVec.smod 32).toNat = n := by decide +kernel
theorem ofI_n (n : Nat) : Int32.ofInt (n : Int) = nI n := rfl
theorem inc_n (a n : Nat) : nI a + Int32.ofInt (n : Int) = nI (a + n) := by rw [ofI_n, nI_add]
theorem dec_n {a : Nat} (h : 1 ≤ a) : nI a + Int32.ofInt (-1) = nI (a - 1) := by
  obtain ⟨b, rfl⟩ : ∃ b, a = b + 1 := ⟨a - 1, by omega⟩
  exact pk_m1 b
theorem sh_1 {k : Nat} (h : k < 31) : nI 1 <<< (nI k &&& 31) = nI (2 ^ k) := by
  have h2 : 2 ^ k < 2 ^ 31 := Nat.pow_lt_pow_right (by decide) h
  rw [pk_shlN (nI k &&& 31) k (s_l k (by omega)) (by omega), Nat.one_mul]
theorem sh_r {a k : Nat} (ha : a < 2147483648) (hk : k < 32) : nI a >>> (nI k &&& 31) = nI (a >>> k) := by
  rw [pk_shrN ha (nI k &&& 31) k (s_l k hk), Nat.shiftRight_eq_div_pow]
theorem tb_nat (a k : Nat) : (a >>> k) &&& 1 = (a.testBit k).toNat := by
  rw [Nat.and_one_is_mod, Nat.testBit_eq_decide_div_mod_eq, Nat.shiftRight_eq_div_pow]
  rcases Nat.mod_two_eq_zero_or_one (a / 2 ^ k) with h | h <;> simp [h]
theorem tb_bit (a k : Nat) : nI (a >>> k) &&& nI 1 = bI (a.testBit k) := by
  rw [fa_and, tb_nat]
  cases a.testBit k <;> rfl
theorem bI_1 {b : Bool} : bI b = nI 1 ↔ b = true := by cases b <;> decide +kernel
theorem lN_ne0 {n : Nat} (h0 : 0 < n) (h : n < 9223372036854775808) : ¬ lN n = 0 := fun e => absurd ((pk_lEQ (b := 0) h (by decide)).mp (show lN n = lN 0 from e)) (by omega)
theorem sw_out (n : Nat) (x : Int32) (h : ∀ k, k < n → ¬ x = nI k) : x.toInt < 0 ∨ ((n : Int) - 1) < x.toInt := by
  by_cases h0 : x < 0
  · left
    have := Int32.lt_iff_toInt_lt.mp h0
    simpa using this
  · right
    obtain ⟨j, hj, rfl⟩ := nI_of h0
    rw [nI_toInt hj]
    by_cases hn : j < n
    · exact absurd rfl (h j hn)
    · omega
/-- a copy of a stretch of a row -/
def cpN (f g : Nat → Nat) (sp dp n : Nat) : Nat → Nat := fun k => if dp ≤ k ∧ k < dp + n then f (sp + (k - dp)) else g k
theorem cp_nA (f g : Nat → Nat) (sp dp n : Nat) : va_cpy (nA f) (nA g) sp dp n = nA (cpN f g sp dp n) := by
  funext k
  unfold va_cpy nA cpN
  split <;> rfl
theorem cpN_in {f g : Nat → Nat} {n k : Nat} (h : k < n) : cpN f g 0 0 n k = f k := by
  unfold cpN
  rw [if_pos ⟨Nat.zero_le _, by omega⟩]
  simp
section JX
variable {p : Program} {l : Launch} {e : Env} {R : Room} {s : State} {m : MethodId} {args : Array Value} {below : List Frame} {meth : Method} {c : Code} {cells slots : Nat} {Q : State → Prop} {D : va_G} {A : Nat → Prop} {nL : Nat} {cc : ByteArray} {own : String} {cyI cyZ cyO : ClassId} {w : va_W} {pc : Nat} {lv : List (Nat × Value)} {st : List Value}
theorem j_b1_eq (C : Cx p R s m args c cc nL own D (cyI, cyZ, cyO) A) {b : Bool} {off : Int} (tgt : Nat) {pc' : Nat} (hdg : decode cc pc = .ok (.if_icmp .eq off, 3)) (ht : (pc : Int) + off = (tgt : Int)) (hp : pc + 3 = pc') (kt : b = true → J p l e R s m args below meth c cells slots Q D A nL w tgt lv st) (kf : b = false → J p l e R s m args below meth c cells slots Q D A nL w pc' lv st) : J p l e R s m args below meth c cells slots Q D A nL w pc lv (.int (nI 1) :: .int (bI b) :: st) :=
  j_ic_eq C tgt hdg ht hp (fun h => kt (bI_1.mp h)) (fun h => kf (by cases b; rfl; exact absurd rfl h))
theorem j_b1_ne (C : Cx p R s m args c cc nL own D (cyI, cyZ, cyO) A) {b : Bool} {off : Int} (tgt : Nat) {pc' : Nat} (hdg : decode cc pc = .ok (.if_icmp .ne off, 3)) (ht : (pc : Int) + off = (tgt : Int)) (hp : pc + 3 = pc') (kt : b = false → J p l e R s m args below meth c cells slots Q D A nL w tgt lv st) (kf : b = true → J p l e R s m args below meth c cells slots Q D A nL w pc' lv st) : J p l e R s m args below meth c cells slots Q D A nL w pc lv (.int (nI 1) :: .int (bI b) :: st) :=
  j_ic_ne C tgt hdg ht hp (fun h => kt (by cases b; rfl; exact absurd rfl h)) (fun h => kf (bI_1.mp (Classical.not_not.mp h)))
theorem j_copy (C : Cx p R s m args c cc nL own D (cyI, cyZ, cyO) A) {index a0 a1 n0 n1 sp dp n : Nat} {f g : Nat → Nat} {pc' : Nat} (hlink : Cond.methodLink own index arraycopyName ∈ lw_T) (w' : va_W) (q0 q1 : Nat) (h0 : w[q0]? = some (a0, .inl (cyI, n0, .inl (nA f)))) (h1 : w[q1]? = some (a1, .inl (cyI, n1, .inl (nA g)))) (hs : sp + n ≤ n0) (hd : dp + n ≤ n1) (hb : n0 < 2147483648 ∧ n1 < 2147483648) (hfr : 1 ≤ R.frames) (hlo : (st.map fun v => v.category).sum + (nativeFrameWords "java/lang/System" "arraycopy" 5 + 11) ≤ R.locals) (hdg : decode cc pc = .ok (.invokestatic index, 3)) (hp : pc + 3 = pc') (hw : w.set q1 (a1, .inl (cyI, n1, .inl (nA (cpN f g sp dp n)))) = w') (k : J p l e R s m args below meth c cells slots Q D A nL w' pc' lv st) : J p l e R s m args below meth c cells slots Q D A nL w pc lv (.int (nI n) :: .int (nI dp) :: .ref a1 :: .int (nI sp) :: .ref a0 :: st) := by
  subst hp; subst hw
  intro H locs ls hP hD hS hl
  have es : (nI sp).toNatClampNeg = sp := nI_clamp (by omega)
  have ed : (nI dp).toNatClampNeg = dp := nI_clamp (by omega)
  have en : (nI n).toNatClampNeg = n := nI_clamp (by omega)
  refine va_copyi C.1 C.2.1 (by rw [C.2.2.1]; exact hl.1.symm) C.2.2.2.1 (C.2.2.2.2.1 _ hlink) (C.2.2.2.2.1 _ native_arraycopy) (C.2.2.2.2.1 _ static_arraycopy) (C.2.2.2.2.1 _ ni_J10) C.2.2.2.2.2.1 hP hD hS q0 q1 0 0 h0 h1 rfl rfl rfl (nI_pos (by omega)) (nI_pos (by omega)) (nI_pos (by omega)) (by rw [es, en]; exact hs) (by rw [ed, en]; exact hd) (fun i _ => rfl) hfr hlo hdg (fun H1 locs1 hP1 hD1 hS1 => ?_)
  rw [es, ed, en, cp_nA] at hP1 hD1
  exact k H1 locs1 ls hP1 hD1 hS1 hl
end JX
section JY
variable {p : Program} {l : Launch} {e : Env} {R : Room} {s : State} {m : MethodId} {args : Array Value} {below : List Frame} {meth : Method} {c : Code} {cells slots : Nat} {Q : State → Prop} {D : va_G} {A : Nat → Prop} {nL : Nat} {cc : ByteArray} {own : String} {cyI cyZ cyO : ClassId} {w : va_W} {pc : Nat} {lv : List (Nat × Value)} {st : List Value}
theorem j_b0_eq (C : Cx p R s m args c cc nL own D (cyI, cyZ, cyO) A) {b : Bool} {off : Int} (tgt : Nat) {pc' : Nat} (hdg : decode cc pc = .ok (.if_icmp .eq off, 3)) (ht : (pc : Int) + off = (tgt : Int)) (hp : pc + 3 = pc') (kt : b = false → J p l e R s m args below meth c cells slots Q D A nL w tgt lv st) (kf : b = true → J p l e R s m args below meth c cells slots Q D A nL w pc' lv st) : J p l e R s m args below meth c cells slots Q D A nL w pc lv (.int (nI 0) :: .int (bI b) :: st) :=
  j_ic_eq C tgt hdg ht hp (fun h => kt (bI_0.mp h)) (fun h => kf (by cases b; exact absurd rfl h; rfl))
theorem j_b0_ne (C : Cx p R s m args c cc nL own D (cyI, cyZ, cyO) A) {b : Bool} {off : Int} (tgt : Nat) {pc' : Nat} (hdg : decode cc pc = .ok (.if_icmp .ne off, 3)) (ht : (pc : Int) + off = (tgt : Int)) (hp : pc + 3 = pc') (kt : b = true → J p l e R s m args below meth c cells slots Q D A nL w tgt lv st) (kf : b = false → J p l e R s m args below meth c cells slots Q D A nL w pc' lv st) : J p l e R s m args below meth c cells slots Q D A nL w pc lv (.int (nI 0) :: .int (bI b) :: st) :=
  j_ic_ne C tgt hdg ht hp (fun h => kt (by cases b; exact absurd rfl h; rfl)) (fun h => kf (bI_0.mp (Classical.not_not.mp h)))
end JY
theorem bI_t {q : Prop} [Decidable q] (h : q) : bI true = bI (decide q) := by rw [decide_eq_true h]
theorem bI_f {q : Prop} [Decidable q] (h : ¬ q) : bI false = bI (decide q) := by rw [decide_eq_false h]
theorem i_lt (a b : Int32) : a < b ↔ a.toInt < b.toInt := Int32.lt_iff_toInt_lt
theorem i_le (a b : Int32) : a ≤ b ↔ a.toInt ≤ b.toInt := Int32.le_iff_toInt_le
theorem i_0 : (0 : Int32).toInt = 0 := rfl
theorem i_m1 : (-1 : Int32).toInt = -1 := by decide +kernel
theorem add_0I (b : Nat) : nI 0 + nI b = nI b := by rw [nI_add, Nat.zero_add]
