section JO
variable {p : Program} {l : Launch} {e : Env} {R : Room} {s : State} {m : MethodId} {args : Array Value} {below : List Frame} {meth : Method} {c : Code} {cells slots : Nat} {Q : State → Prop} {D : va_G} {A : Nat → Prop} {nL : Nat} {cc : ByteArray} {own : String} {cyI cyZ cyO : ClassId} {w : va_W} {pc : Nat} {lv : List (Nat × Value)} {st : List Value}
/-- rows of objects: the settings that are kept -/
theorem j_aald (C : Cx p R s m args c cc nL own D (cyI, cyZ, cyO) A) {a n j b : Nat} {f : Nat → Option Nat} {pc' : Nat} (q0 : Nat) (he : w[q0]? = some (a, .inl (cyO, n, .inr (.inr (.inr (.inr f)))))) (hj : j < n) (hn : n < 2147483648) (hf : f j = some b) (hdg : decode cc pc = .ok (.aaload, 1)) (hp : pc + 1 = pc') (k : J p l e R s m args below meth c cells slots Q D A nL w pc' lv (.ref b :: st)) : J p l e R s m args below meth c cells slots Q D A nL w pc lv (.int (nI j) :: .ref a :: st) := by
  subst hp
  exact fun H locs ls hP hD hS hl => va_aldq C.1 C.2.1 C.2.2.2.2.2.1 hP q0 2 he rfl (vp_in_nI hj hn) hdg (by rw [nI_clamp (by omega), hf]; exact (k H locs ls hP hD hS hl))
theorem j_aast (C : Cx p R s m args c cc nL own D (cyI, cyZ, cyO) A) {a n j b : Nat} {f : Nat → Option Nat} {vs : List Value} {pc' : Nat} (w' : va_W) (q0 qk : Nat) (he : w[q0]? = some (a, .inl (cyO, n, .inr (.inr (.inr (.inr f)))))) (hv : w[qk]? = some (b, .inr (4, vs))) (hj : j < n) (hn : n < 2147483648) (hdg : decode cc pc = .ok (.aastore, 1)) (hp : pc + 1 = pc') (hw : w.set q0 (a, .inl (cyO, n, .inr (.inr (.inr (.inr (va_up f j (some b))))))) = w') (k : J p l e R s m args below meth c cells slots Q D A nL w' pc' lv st) : J p l e R s m args below meth c cells slots Q D A nL w pc lv (.ref b :: .int (nI j) :: .ref a :: st) := by
  subst hp; subst hw
  exact fun H locs ls hP hD hS hl => va_astq (r := (RX4, TX4, 4)) C.1 C.2.1 C.2.2.2.2.2.1 hP hD hS q0 2 qk 4 he rfl hv rfl (vp_in_nI hj hn) hdg (fun H1 locs1 hP1 hD1 hS1 => k H1 locs1 ls (by rw [nI_clamp (by omega)] at hP1; exact hP1) (by rw [nI_clamp (by omega)] at hD1; exact hD1) hS1 hl)
theorem j_newq (C : Cx p R s m args c cc nL own D (cyI, cyZ, cyO) A) {n index : Nat} {pc' : Nat} (hcl : Cond.classLink own index "SneakPaths$Setting" ∈ lw_T) (hn : n ≤ 100000) (hcells : cells + 1 ≤ R.cells) (hslots : slots + n ≤ R.slots) (hdg : decode cc pc = .ok (.anewarray index, 3)) (hp : pc + 3 = pc') (k : ∀ q : Nat, J p l e R s m args below meth c (cells + 1) (slots + n) Q D A nL (w ++ [(q, .inl (cyO, n, .inr (.inr (.inr (.inr (fun _ => none))))))]) pc' lv (.ref q :: st)) : J p l e R s m args below meth c cells slots Q D A nL w pc lv (.int (nI n) :: st) := by
  subst hp
  intro H locs ls hP hD hS hl
  refine va_newq (C := "SneakPaths$Setting") C.1 C.2.1 C.2.2.2.1 (C.2.2.2.2.1 _ hcl) C.2.2.2.2.2.2.2.2.2.2.2.2.2.1 C.2.2.2.2.2.1 hP hD hS C.2.2.2.2.2.2.1 (nI_pos (by omega)) (nI_clamp (by omega)) (by omega) hcells hslots hdg (fun q cA H1 hK1 hP1 hD1 hS1 => ?_)
  obtain ⟨kA, comp, a1, a2, a3, a4⟩ := (hK1.2 3 (cA, .object "SneakPaths$Setting") rfl).2
  obtain ⟨kB, comp', b1, b2, b3, b4⟩ := (C.2.2.2.2.2.1.2 2 (cyO, .object "SneakPaths$Setting") rfl).2
  have e0 : comp = comp' := Option.some.inj (a3.symm.trans b3)
  subst e0
  have e3 : cA = cyO := Option.some.inj (a4.symm.trans b4)
  subst e3
  exact k q H1 locs ls hP1 hD1 hS1 hl
end JO
/-! Integer.bitCount on small numbers -/
def bcU (a : Int32) (k : Nat) : Int32 := (a.toUInt32 >>> ((nI k).toUInt32 &&& Int32.toUInt32 31)).toInt32
def bc1 (a : Int32) : Int32 := a - (bcU a 1 &&& nI 1431655765)
def bc2 (a : Int32) : Int32 := (a &&& nI 858993459) + (bcU a 2 &&& nI 858993459)
def bc3 (a : Int32) : Int32 := (a + bcU a 4) &&& nI 252645135
def bc4 (a : Int32) : Int32 := a + bcU a 8
def bc5 (a : Int32) : Int32 := a + bcU a 16
theorem bc_all : ∀ a, a < 512 → bc5 (bc4 (bc3 (bc2 (bc1 (nI a))))) &&& nI 63 = nI (pcN a) := by decide +kernel
theorem neg10 : ∀ f, f < 101 → ¬ ((0 : Int32) ≤ -10 - nI f) := by decide +kernel
theorem RN_cp {t a b c d e kd fi se sb ld : Nat → Nat} (hT : WT t) (h : RN t a b c d e) : RN t (cpN a kd 0 0 9) (cpN b fi 0 0 9) (cpN c se 0 0 9) (cpN d sb 0 0 9) (cpN e ld 0 0 3) := by
  have h1 := hT.n
  refine ⟨fun k hk => ?_, fun l hl => ?_⟩
  · rw [cpN_in (by omega), cpN_in (by omega), cpN_in (by omega), cpN_in (by omega)]; exact h.1 k hk
  · rw [cpN_in (by omega)]; exact h.2 l hl
theorem RS_cp {s wi cu cb sk a b c d : Nat → Nat} (h : RS s wi cu cb sk) : RS s (cpN wi a 0 0 3) (cpN cu b 0 0 9) (cpN cb c 0 0 9) (cpN sk d 0 0 9) := by
  refine ⟨fun k hk => ?_, fun l hl => ?_⟩
  · rw [cpN_in (by omega)]; exact h.1 k hk
  · rw [cpN_in (by omega), cpN_in (by omega), cpN_in (by omega)]; exact h.2 l hl
/-- the images -/
def KI (kq : Nat → Nat) (ik : Nat → Bool) (wi0 cu0 cb0 sk0 wi1 cu1 cb1 sk1 : Nat → Nat) : Prop := (ik 0 = true → RS (fun k => kq (30 * 0 + k)) wi0 cu0 cb0 sk0) ∧ (ik 1 = true → RS (fun k => kq (30 * 1 + k)) wi1 cu1 cb1 sk1)
theorem RS_keep {kq s wi cu cb sk : Nat → Nat} {j : Nat} (h : RS s wi cu cb sk) : RS (fun k => flN kq s (30 * j) 30 (30 * j + k)) wi cu cb sk := by
  refine RS_cong h (fun k hk => ?_)
  show flN kq s (30 * j) 30 (30 * j + k) = s k
  rw [flN_i (by omega) (by omega)]
  congr 1
  omega
theorem RS_kept {kq s wi cu cb sk : Nat → Nat} {i j : Nat} (hij : i ≠ j) (h : RS (fun k => kq (30 * i + k)) wi cu cb sk) : RS (fun k => flN kq s (30 * j) 30 (30 * i + k)) wi cu cb sk := by
  refine RS_cong h (fun k hk => ?_)
  show flN kq s (30 * j) 30 (30 * i + k) = kq (30 * i + k)
  rw [flN_o (by omega)]
theorem RS_back {kq s wi cu cb sk : Nat → Nat} {j : Nat} (h : RS (fun k => kq (30 * j + k)) wi cu cb sk) : RS (snp kq (30 * j) s) wi cu cb sk := by
  refine RS_cong h (fun k hk => ?_)
  unfold snp
  rw [flN_i (Nat.zero_le _) (by omega), Nat.sub_zero]
