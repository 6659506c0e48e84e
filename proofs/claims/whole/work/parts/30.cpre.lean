/-! the class: how its rows stand to t and s -/
def RN (t kd fi se sb ld : Nat → Nat) : Prop := (∀ c, c < t 1 → kd c = t (3 + c) ∧ fi c = t (12 + c) ∧ se c = t (21 + c) ∧ sb c = t (30 + c)) ∧ (∀ l, l < t 2 → ld l = t (39 + l))
def RS (s wi cu cb sk : Nat → Nat) : Prop := (∀ l, l < 3 → wi l = s l) ∧ (∀ c, c < 9 → cu c = s (3 + c) ∧ cb c = s (12 + c) ∧ sk c = s (21 + c))
def sww (b : Nat) : Nat := if b = 0 then 43690 else if b = 1 then 52428 else if b = 2 then 61680 else 65280
theorem sww_f (b : Nat) : sw_f b = nI (sww b) := by
  unfold sw_f sww
  repeat' split
  all_goals rfl
def sbN (kd b : Nat) : Nat := if 1 < kd ∨ 4 ≤ b then 65535 else if kd = 0 then sww b else 65535 &&& (sww b ^^^ 4294967295)
theorem sbN_lt (kd b : Nat) : sbN kd b < 65536 := by
  unfold sbN
  split
  · decide
  · split
    · unfold sww
      repeat' split
      all_goals decide
    · exact Nat.lt_of_le_of_lt Nat.and_le_left (by decide)
theorem sb0 : ∀ b, b < 4 → ∀ st, st < 16 → (sww b).testBit st = st.testBit b := by decide +kernel
theorem sb1 : ∀ b, b < 4 → ∀ st, st < 16 → (65535 &&& (sww b ^^^ 4294967295)).testBit st = !st.testBit b := by decide +kernel
theorem sb2 : ∀ st, st < 16 → (65535 : Nat).testBit st = true := by decide +kernel
/-- whether a contact with this cure, that sticks so, is shut in a state; is a way -/
def shV (t : Nat → Nat) (c cu cb sk st : Nat) : Bool :=
  if sk = 0 then (if t (3 + c) = 0 then st.testBit (t (30 + c)) else if t (3 + c) = 1 then !(st.testBit (t (30 + c))) else true) && (decide (1 < cu) || (st.testBit cb == decide (cu = 0)))
  else decide (sk = 2)
def wyV (t : Nat → Nat) (c cu sk : Nat) (back : Bool) : Bool :=
  if sk = 0 then (if back then decide (t (3 + c) ≠ 3) && decide (cu ≠ 2) else decide (cu ≠ 3))
  else decide (sk = 2)
theorem shV_B (t s : Nat → Nat) (c st : Nat) : shV t c (s (3 + c)) (s (12 + c)) (s (21 + c)) st = shB t s c st := rfl
theorem wyV_B (t s : Nat → Nat) (c : Nat) (b : Bool) : wyV t c (s (3 + c)) (s (21 + c)) b = wyB t s c b := rfl
theorem sbN_k {t : Nat → Nat} (hT : WT t) {c st : Nat} (hc : c < t 1) (hst : st < 16) : (sbN (t (3 + c)) (t (30 + c))).testBit st = (if t (3 + c) = 0 then st.testBit (t (30 + c)) else if t (3 + c) = 1 then !(st.testBit (t (30 + c))) else true) := by
  have h := hT.c hc
  unfold sbN
  rcases Nat.lt_or_ge (t (3 + c)) 2 with q | q
  · have h4 := h.2.2.2.1 q
    rw [if_neg (by omega)]
    by_cases h0 : t (3 + c) = 0
    · rw [if_pos h0, if_pos h0, sb0 _ h4 _ hst]
    · rw [if_neg h0, if_neg h0, if_pos (by omega), sb1 _ h4 _ hst]
  · rw [if_pos (by omega), if_neg (by omega), if_neg (by omega), sb2 _ hst]
theorem sbN_c {cu cb st : Nat} (hb : cb < 4) (hst : st < 16) : (sbN cu cb).testBit st = (decide (1 < cu) || (st.testBit cb == decide (cu = 0))) := by
  unfold sbN
  rcases Nat.lt_or_ge 1 cu with q | q
  · rw [if_pos (by omega), sb2 _ hst, decide_eq_true q]
    rfl
  · rw [if_neg (by omega), decide_eq_false (by omega)]
    by_cases h0 : cu = 0
    · rw [if_pos h0, sb0 _ hb _ hst, decide_eq_true h0]
      cases st.testBit cb <;> rfl
    · rw [if_neg h0, sb1 _ hb _ hst, decide_eq_false h0]
      cases st.testBit cb <;> rfl
def LD1 (t : Nat → Nat) (c cu cb sk v : Nat) (f b : Bool) : Prop := v < 65536 ∧ (∀ st, st < 16 → v.testBit st = shV t c cu cb sk st) ∧ f = wyV t c cu sk false ∧ b = wyV t c cu sk true
/-- the ways as they were laid: for the first n contacts -/
def LDn (t s sh : Nat → Nat) (fo ba : Nat → Bool) (n : Nat) : Prop := ∀ c, c < n → LD1 t c (s (3 + c)) (s (12 + c)) (s (21 + c)) (sh c) (fo c) (ba c)
theorem EC.tab {A : Nat → Prop} {U : State} {H : Heap} (h : EC A U H) : ∃ t : Nat, va_Z RX7 "STATES_OF_SWITCH" "[I" (.ref t) A U H ∧ va_T .int t 4 (fun j => .int (sw_f j)) A U H := h.2.2.2.2.2.2.2
section JS
variable {p : Program} {l : Launch} {e : Env} {R : Room} {s : State} {m : MethodId} {args : Array Value} {below : List Frame} {meth : Method} {c : Code} {cells slots : Nat} {Q : State → Prop} {D : va_G} {A : Nat → Prop} {nL : Nat} {cc : ByteArray} {cyI cyZ cyO : ClassId} {w : va_W} {pc : Nat} {lv : List (Nat × Value)} {st : List Value}
theorem j_gets (C : Cx p R s m args c cc nL RX6 D (cyI, cyZ, cyO) A) {t pc' : Nat} (hZ : va_Z RX7 "STATES_OF_SWITCH" "[I" (.ref t) A s s.heap) (hdg : decode cc pc = .ok (.getstatic 65, 3)) (hp : pc + 3 = pc') (k : J p l e R s m args below meth c cells slots Q D A nL w pc' lv (.ref t :: st)) : J p l e R s m args below meth c cells slots Q D A nL w pc lv st := by
  subst hp
  exact fun H locs ls hP hD hS hl => va_getsN C.1 C.2.1 hZ hS C.2.2.2.1 (va_Nw.use rfl C.2.2.2.2.2.2.2.2.2.2.2.2.1) (fun x h => h) hdg (k H locs ls hP hD hS hl)
theorem j_tald (C : Cx p R s m args c cc nL RX6 D (cyI, cyZ, cyO) A) {t j pc' : Nat} (hT : va_T .int t 4 (fun j => .int (sw_f j)) A s s.heap) (hj : j < 4) (hdg : decode cc pc = .ok (.iaload, 1)) (hp : pc + 1 = pc') (k : J p l e R s m args below meth c cells slots Q D A nL w pc' lv (.int (nI (sww j)) :: st)) : J p l e R s m args below meth c cells slots Q D A nL w pc lv (.int (nI j) :: .ref t :: st) := by
  subst hp
  exact fun H locs ls hP hD hS hl => va_ti C.1 C.2.1 hT hS (vp_in_nI hj (by decide)) (by rw [nI_clamp (by omega), sww_f]) hdg (k H locs ls hP hD hS hl)
end JS
/-- what is reached, of every node the states; of every state the nodes -/
def RcK (rc : Nat → Nat) (z : Nat → Nat) : Prop := (∀ a, a < 7 → rc a < 65536) ∧ ∀ a, a < 7 → ∀ st, st < 16 → (rc a).testBit st = (z st).testBit a
theorem fl_bit {a b v st : Nat} (ha : a < 65536) (hst : st < 16) : (a ||| ((b &&& v) &&& (a ^^^ 4294967295))).testBit st = (a.testBit st || (b.testBit st && v.testBit st)) := by
  have hM : (4294967295 : Nat).testBit st = true := by
    have : ∀ q, q < 16 → (4294967295 : Nat).testBit q = true := by decide +kernel
    exact this st hst
  rw [Nat.testBit_or, Nat.testBit_and, Nat.testBit_and, Nat.testBit_xor, hM]
  cases a.testBit st <;> cases b.testBit st <;> cases v.testBit st <;> rfl
theorem fl_0 {a b v st : Nat} (h : (b &&& v) &&& (a ^^^ 4294967295) = 0) (hst : st < 16) : a.testBit st = (a.testBit st || (b.testBit st && v.testBit st)) := by
  have hM : (4294967295 : Nat).testBit st = true := by
    have : ∀ q, q < 16 → (4294967295 : Nat).testBit q = true := by decide +kernel
    exact this st hst
  have h1 : ((b &&& v) &&& (a ^^^ 4294967295)).testBit st = false := by rw [h]; exact Nat.zero_testBit st
  rw [Nat.testBit_and, Nat.testBit_and, Nat.testBit_xor, hM] at h1
  cases ha : a.testBit st <;> cases hb : b.testBit st <;> cases hv : v.testBit st <;> simp_all
/-- one contact's flow, of one state's set -/
def flZ (z : Nat → Nat) (v fr to : Nat) : Nat → Nat := fun st => z st ||| (if (z st).testBit fr && v.testBit st then 2 ^ to else 0)
theorem flZ_bit (z : Nat → Nat) (v fr to a st : Nat) : (flZ z v fr to st).testBit a = ((z st).testBit a || (decide (a = to) && ((z st).testBit fr && v.testBit st))) := by
  unfold flZ
  rw [Nat.testBit_or]
  congr 1
  by_cases h : a = to
  · subst h
    cases (z st).testBit fr && v.testBit st <;> simp [Nat.testBit_two_pow_self]
  · rw [decide_eq_false h]
    split
    · rw [Nat.testBit_two_pow_of_ne (fun q => h q.symm)]; rfl
    · simp
