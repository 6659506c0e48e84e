theorem fm_of_map {α β : Type} {f : α → Option β} {is : List α} {l : List β} (h : is.map f = l.map some) : is.filterMap f = l := by
  have h1 : is.filterMap f = (is.map f).filterMap id := by rw [List.filterMap_map]; rfl
  rw [h1, h, List.filterMap_map]
  have h2 : (id ∘ (some : β → Option β)) = some := rfl
  rw [h2]
  exact List.filterMap_some
theorem T_in {y : MethodName} {cc : ByteArray} {n : Nat} {ret : Option FieldType} (h : Cond.code y cc n ret ∈ lw_T) : GoodIn lw_T (Cond.code y cc n ret :: lw_T) := by
  intro x hx
  have hm : x ∈ lw_T := by
    rcases List.mem_cons.mp hx with e | e
    · rw [e]; exact h
    · exact e
  exact ⟨hm, good_of_word (T_gw hm)⟩
/-- a contract's start: the world w, the tables -/
def Pz (D : va_G) (cy : ClassId × ClassId × ClassId) (av : List Value) (w : va_W) (sz : Nat) : Array Value → State → Prop := va_Pc av (fun U => U.heap.size = sz ∧ va_P D vwCl w U.heap ∧ va_K D vwCl (ty3 cy) U ∧ va_D (fun _ => True) w ∧ EC (va_A w sz) U U.heap)
def Bz (D : va_G) (w : va_W) (sz : Nat) : va_W → State → Prop := fun w' t => va_P D vwCl w' t.heap ∧ va_D (va_A w sz) w'
/-- contracts: from the world w with the arguments av to a world and an answer of which Qr holds -/
def Ki (l : Launch) (y : MethodName) (cc : ByteArray) (maxL : Nat) (rt : FieldType) (rm : Room) (D : va_G) (cy : ClassId × ClassId × ClassId) (av : List Value) (w : va_W) (Qr : Int32 → va_W → Prop) : Prop := ∀ sz : Nat, Met l y (.code y cc maxL (some rt) :: lw_T) rm (Pz D cy av w sz) (va_Qi Qr (Bz D w sz) (va_A w sz)) rm.cells rm.slots (va_A w sz)
def Kl (l : Launch) (y : MethodName) (cc : ByteArray) (maxL : Nat) (rt : FieldType) (rm : Room) (D : va_G) (cy : ClassId × ClassId × ClassId) (av : List Value) (w : va_W) (Qr : Int64 → va_W → Prop) : Prop := ∀ sz : Nat, Met l y (.code y cc maxL (some rt) :: lw_T) rm (Pz D cy av w sz) (va_Ql Qr (Bz D w sz) (va_A w sz)) rm.cells rm.slots (va_A w sz)
def Kv (l : Launch) (y : MethodName) (cc : ByteArray) (maxL : Nat) (rm : Room) (D : va_G) (cy : ClassId × ClassId × ClassId) (av : List Value) (w : va_W) (Qr : va_W → Prop) : Prop := ∀ sz : Nat, Met l y (.code y cc maxL none :: lw_T) rm (Pz D cy av w sz) (va_Qv Qr (Bz D w sz) (va_A w sz)) rm.cells rm.slots (va_A w sz)
theorem Ki.of {l : Launch} {y : MethodName} {cc : ByteArray} {maxL : Nat} {rt : FieldType} {rm : Room} {D : va_G} {cy : ClassId × ClassId × ClassId} {av : List Value} {w : va_W} {Qr : Int32 → va_W → Prop} {own : String} (ho : y.cls = own) (hy : plainName y.cls = true) (hlen : (lg_sl av).length ≤ maxL)
    (body : ∀ (p : Program) (e : Env) (s : State) (m : MethodId) (args : Array Value) (below : List Frame) (meth : Method) (c : Code) (A : Nat → Prop), Cx p rm s m args c cc maxL own D cy A → meth.sig.returnType = some rt → meth.locks = false → meth.name = y.name → A = va_A w s.heap.size → J p l e rm s m args below meth c 0 0 (MQ below (va_Qi Qr (Bz D w s.heap.size) A) args s rm.cells rm.slots A) D A maxL w 0 (lv_args 0 av) []) : Ki l y cc maxL rt rm D cy av w Qr := by
  intro sz
  refine Met.ofW (cc := cc) (maxL := maxL) (ret := some rt) hy rfl ?_
  intro p e s m args below meth c s₁ B hml hv
  obtain ⟨rfl, hsz, hP, hK, hD0, hE⟩ := hv
  subst hsz
  have hts := atoms_spec (ws := .code y cc maxL (some rt) :: lw_T) B.pre
  rw [lg_entry_eq]
  exact body p e s m _ below meth c _ ⟨B.exec, B.bytes, hml, ho ▸ findClass_of_methodNamed B.named, fun x hx => hts x (List.mem_cons_of_mem _ hx), hK, fun q h => Or.inr h, hE⟩ B.returns B.notSynchronized (name_of_methodNamed B.named B.method).1 rfl s.heap [] _ hP hD0.self va_S.rf (lv_entry av hlen)
theorem Kl.of {l : Launch} {y : MethodName} {cc : ByteArray} {maxL : Nat} {rt : FieldType} {rm : Room} {D : va_G} {cy : ClassId × ClassId × ClassId} {av : List Value} {w : va_W} {Qr : Int64 → va_W → Prop} {own : String} (ho : y.cls = own) (hy : plainName y.cls = true) (hlen : (lg_sl av).length ≤ maxL)
    (body : ∀ (p : Program) (e : Env) (s : State) (m : MethodId) (args : Array Value) (below : List Frame) (meth : Method) (c : Code) (A : Nat → Prop), Cx p rm s m args c cc maxL own D cy A → meth.sig.returnType = some rt → meth.locks = false → meth.name = y.name → A = va_A w s.heap.size → J p l e rm s m args below meth c 0 0 (MQ below (va_Ql Qr (Bz D w s.heap.size) A) args s rm.cells rm.slots A) D A maxL w 0 (lv_args 0 av) []) : Kl l y cc maxL rt rm D cy av w Qr := by
  intro sz
  refine Met.ofW (cc := cc) (maxL := maxL) (ret := some rt) hy rfl ?_
  intro p e s m args below meth c s₁ B hml hv
  obtain ⟨rfl, hsz, hP, hK, hD0, hE⟩ := hv
  subst hsz
  have hts := atoms_spec (ws := .code y cc maxL (some rt) :: lw_T) B.pre
  rw [lg_entry_eq]
  exact body p e s m _ below meth c _ ⟨B.exec, B.bytes, hml, ho ▸ findClass_of_methodNamed B.named, fun x hx => hts x (List.mem_cons_of_mem _ hx), hK, fun q h => Or.inr h, hE⟩ B.returns B.notSynchronized (name_of_methodNamed B.named B.method).1 rfl s.heap [] _ hP hD0.self va_S.rf (lv_entry av hlen)
theorem Kv.of {l : Launch} {y : MethodName} {cc : ByteArray} {maxL : Nat} {rm : Room} {D : va_G} {cy : ClassId × ClassId × ClassId} {av : List Value} {w : va_W} {Qr : va_W → Prop} {own : String} (ho : y.cls = own) (hy : plainName y.cls = true) (hlen : (lg_sl av).length ≤ maxL)
    (body : ∀ (p : Program) (e : Env) (s : State) (m : MethodId) (args : Array Value) (below : List Frame) (meth : Method) (c : Code) (A : Nat → Prop), Cx p rm s m args c cc maxL own D cy A → meth.sig.returnType = none → meth.locks = false → meth.name = y.name → A = va_A w s.heap.size → J p l e rm s m args below meth c 0 0 (MQ below (va_Qv Qr (Bz D w s.heap.size) A) args s rm.cells rm.slots A) D A maxL w 0 (lv_args 0 av) []) : Kv l y cc maxL rm D cy av w Qr := by
  intro sz
  refine Met.ofW (cc := cc) (maxL := maxL) (ret := none) hy rfl ?_
  intro p e s m args below meth c s₁ B hml hv
  obtain ⟨rfl, hsz, hP, hK, hD0, hE⟩ := hv
  subst hsz
  have hts := atoms_spec (ws := .code y cc maxL (none) :: lw_T) B.pre
  rw [lg_entry_eq]
  exact body p e s m _ below meth c _ ⟨B.exec, B.bytes, hml, ho ▸ findClass_of_methodNamed B.named, fun x hx => hts x (List.mem_cons_of_mem _ hx), hK, fun q h => Or.inr h, hE⟩ B.returns B.notSynchronized (name_of_methodNamed B.named B.method).1 rfl s.heap [] _ hP hD0.self va_S.rf (lv_entry av hlen)
section JC
variable {p : Program} {l : Launch} {e : Env} {R : Room} {s : State} {m : MethodId} {args : Array Value} {below : List Frame} {meth : Method} {c : Code} {cells slots : Nat} {Q : State → Prop} {D : va_G} {A : Nat → Prop} {nL : Nat} {cc : ByteArray} {own : String} {cyI cyZ cyO : ClassId} {w : va_W} {pc : Nat} {lv : List (Nat × Value)} {st : List Value}
theorem j_iret (C : Cx p R s m args c cc nL own D (cyI, cyZ, cyO) A) {Qr : Int32 → va_W → Prop} {v : Int32} {w0 : va_W} {rt : FieldType} (hr : meth.sig.returnType = some rt) (hlocks : meth.locks = false) (hA : A = va_A w0 s.heap.size) (hdg : decode cc pc = .ok (.ireturn, 1)) (hn : narrow rt (.int v) = .int v) (hq : Qr v w) : J p l e R s m args below meth c cells slots (MQ below (va_Qi Qr (Bz D w0 s.heap.size) A) args s cells slots A) D A nL (w) pc (lv) ([.int v]) :=
  fun H locs ls hP hD hS hl => W.zret C.1 C.2.1 hr hn (fun t ht hW => ⟨⟨v, w, rfl, hq, by rw [ht]; exact hP, by rw [← hA]; exact hD⟩, hS.F ht⟩) hS.2.2 hdg hlocks
theorem j_lret (C : Cx p R s m args c cc nL own D (cyI, cyZ, cyO) A) {Qr : Int64 → va_W → Prop} {v : Int64} {w0 : va_W} (hr : meth.sig.returnType = some .long) (hlocks : meth.locks = false) (hA : A = va_A w0 s.heap.size) (hdg : decode cc pc = .ok (.lreturn, 1)) (hq : Qr v w) : J p l e R s m args below meth c cells slots (MQ below (va_Ql Qr (Bz D w0 s.heap.size) A) args s cells slots A) D A nL (w) pc (lv) ([.long v]) :=
  fun H locs ls hP hD hS hl => W.lret C.1 C.2.1 hr (fun t ht hW => ⟨⟨v, w, rfl, hq, by rw [ht]; exact hP, by rw [← hA]; exact hD⟩, hS.F ht⟩) hS.2.2 hdg hlocks
theorem j_vret (C : Cx p R s m args c cc nL own D (cyI, cyZ, cyO) A) {Qr : va_W → Prop} {w0 : va_W} (hr : meth.sig.returnType = none) (hlocks : meth.locks = false) (hA : A = va_A w0 s.heap.size) (hdg : decode cc pc = .ok (.return_, 1)) (hq : Qr w) : J p l e R s m args below meth c cells slots (MQ below (va_Qv Qr (Bz D w0 s.heap.size) A) args s cells slots A) D A nL (w) pc (lv) ([]) :=
  fun H locs ls hP hD hS hl => W.vret C.1 C.2.1 hr (fun t ht hW => ⟨⟨w, rfl, hq, by rw [ht]; exact hP, by rw [← hA]; exact hD⟩, hS.F ht⟩) hS.2.2 hdg hlocks
theorem j_widen {k n : Nat} (h1 : cells ≤ k) (h2 : slots ≤ n) (kk : J p l e R s m args below meth c k n (Q) D A nL (w) pc (lv) (st)) : J p l e R s m args below meth c cells slots (Q) D A nL (w) pc (lv) (st) := fun H locs ls hP hD hS hl => W.widen h1 h2 (kk H locs ls hP hD hS hl)
theorem pz_blind {D : va_G} {cy : ClassId × ClassId × ClassId} {av : List Value} {w : va_W} {sz : Nat} : FrameBlind (Pz D cy av w sz) := fun a U g mk q => by
  obtain ⟨q0, q1, qP, qK, qD, qE⟩ := q
  exact ⟨q0, q1, qP, va_K.moved (u := U) (U := U.calling g mk a) (Vm.Alike.refl U.vm) qK, qD, EC.same (s := U) (U := U.calling g mk a) rfl qE⟩
theorem pz_pre {cy : ClassId × ClassId × ClassId} {H : Heap} {locs : List Loc} {av : List Value} {wc : va_W} (C : Cx p R s m args c cc nL own D cy A) (hS : va_S A s.heap H locs) (hPc : va_P D vwCl wc H) (hDc : va_D A wc) (hFc : ∀ q, va_A wc H.size q → A q) : ∀ U : State, U.heap = H → s.WarmedH U.vm → Pz D cy av wc H.size av.toArray U := fun U hU hW =>
  ⟨rfl, by rw [hU], by rw [hU]; exact hPc, va_K.moved hW.alike C.2.2.2.2.2.1, hDc.weaken (fun _ _ _ _ => trivial), by rw [hU]; exact EC.warm hW (EC.narrow hFc (EC.kept hS.2.1 C.2.2.2.2.2.2.2))⟩
theorem j_cVi (C : Cx p R s m args c cc nL own D (cyI, cyZ, cyO) A) {y' : MethodName} {cc' : ByteArray} {maxL' n index : Nat} {rm' : Room} {As : List Value} {wc wr : va_W} {st' : List Value} {pc' : Nat} {rt : FieldType} {b ci : Nat} {q : vw_C} {fs : List Value} {Qr : Int32 → va_W → Prop} (hM : Ki l y' cc' maxL' rt rm' D (cyI, cyZ, cyO) (.ref b :: As) wc Qr) (hY : Yv y' cc' maxL' (some rt) n) (hlink : Cond.methodLink own index y' ∈ lw_T) (isC isR : List Nat) (hC : isC.map (fun i => w[i]?) = wc.map some) (hnC : va_nd isC = true) (hR : isR.map (fun i => w[i]?) = wr.map some) (hnR : va_nd isR = true) (hdis : ∀ i ∈ isR, i ∉ isC) (hc : vwCl[ci]? = some q) (hcn : q.1 = y'.cls) (he : wc[0]? = some (b, .inr (ci, fs))) (hdg : decode cc pc = .ok (.invokevirtual index, 3)) (hp : pc + 3 = pc') (hst : st' = As.reverse ++ .ref b :: st) (hn : As.length = n) (hcat : (st.map fun v => v.category).sum ≤ 8) (hRm : rm'.frames + 1 ≤ R.frames ∧ 8 + (maxL' + 11) + rm'.locals ≤ R.locals) (hf : cells + rm'.cells ≤ R.cells ∧ slots + rm'.slots ≤ R.slots) (hz : rm'.cells = 0 ∧ rm'.slots = 0) (kk : ∀ (r : Int32) (w1 : va_W), Qr r w1 → J p l e R s m args below meth c cells slots (Q) D A nL (wr ++ w1) pc' (lv) (.int r :: st)) : J p l e R s m args below meth c cells slots (Q) D A nL (w) pc (lv) (st') := by
  subst hp; subst hst
  intro H locs ls hP hD hS hl
  have hPc := hP.sub isC (fm_of_map hC)
  have hDc := hD.sub isC hnC hC
  have hFc := va_free (wc := wc) hD hS C.2.2.2.2.2.2.1 isC hC
  refine va_calli (va_runV (As := As) (rest := st) ⟨C.1, C.2.1, C.2.2.1, C.2.2.2.1, C.2.2.2.2.1⟩ (hM H.size) ⟨callB_of n C.2.2.2.2.1 (T_in hY.1) rfl rfl rfl (C.2.2.2.2.1 _ hY.2.2.2.1) (C.2.2.2.2.1 _ hlink) hY.2.2.2.2 hRm, C.2.2.2.2.1 _ hY.2.1, C.2.2.2.2.1 _ hY.2.2.1⟩ ⟨pz_blind, hcn ▸ va_recv C.2.2.2.2.2.1 hPc hc he, pz_pre C hS hPc hDc hFc⟩ rfl hn hl.1 rfl (lv_room hcat) hdg hf) hS (fun q _ h => hFc q h) hFc (fun r w1 t H1 locs1 ht hvm hw hB hz1 hk1 hS1 => ?_)
  obtain ⟨hP1, hD1⟩ := hB
  rw [ht] at hP1
  obtain ⟨hP2, hD2⟩ := va_join (wr := wr) (w1 := w1) hP hD isC isR hC hR hnR hdis hk1 hFc hP1 hD1
  rw [hz.1, hz.2]
  exact kk r w1 hw H1 locs1 ls hP2 hD2 hS1 hl
theorem j_cSi (C : Cx p R s m args c cc nL own D (cyI, cyZ, cyO) A) {y' : MethodName} {cc' : ByteArray} {maxL' n index : Nat} {rm' : Room} {As : List Value} {wc wr : va_W} {st' : List Value} {pc' : Nat} {rt : FieldType} {Qr : Int32 → va_W → Prop} (hM : Ki l y' cc' maxL' rt rm' D (cyI, cyZ, cyO) As wc Qr) (hY : Ys y' cc' maxL' (some rt) n) (hlink : Cond.methodLink own index y' ∈ lw_T) (isC isR : List Nat) (hC : isC.map (fun i => w[i]?) = wc.map some) (hnC : va_nd isC = true) (hR : isR.map (fun i => w[i]?) = wr.map some) (hnR : va_nd isR = true) (hdis : ∀ i ∈ isR, i ∉ isC) (hdg : decode cc pc = .ok (.invokestatic index, 3)) (hp : pc + 3 = pc') (hst : st' = As.reverse ++ st) (hn : As.length = n) (hcat : (st.map fun v => v.category).sum ≤ 8) (hRm : rm'.frames + 1 ≤ R.frames ∧ 8 + (maxL' + 11) + rm'.locals ≤ R.locals) (hf : cells + rm'.cells ≤ R.cells ∧ slots + rm'.slots ≤ R.slots) (hz : rm'.cells = 0 ∧ rm'.slots = 0) (kk : ∀ (r : Int32) (w1 : va_W), Qr r w1 → J p l e R s m args below meth c cells slots (Q) D A nL (wr ++ w1) pc' (lv) (.int r :: st)) : J p l e R s m args below meth c cells slots (Q) D A nL (w) pc (lv) (st') := by
  subst hp; subst hst
  intro H locs ls hP hD hS hl
  have hPc := hP.sub isC (fm_of_map hC)
  have hDc := hD.sub isC hnC hC
  have hFc := va_free (wc := wc) hD hS C.2.2.2.2.2.2.1 isC hC
  refine va_calli (va_runS (As := As) (rest := st) ⟨C.1, C.2.1, C.2.2.1, C.2.2.2.1, C.2.2.2.2.1⟩ (hM H.size) ⟨callB_of n C.2.2.2.2.1 (T_in hY.1) rfl rfl rfl (C.2.2.2.2.1 _ hY.2.2.1) (C.2.2.2.2.1 _ hlink) hY.2.2.2 hRm, C.2.2.2.2.1 _ hY.2.1⟩ ⟨pz_blind, pz_pre C hS hPc hDc hFc⟩ rfl hn hl.1 rfl (lv_room hcat) hdg hf) hS (fun q _ h => hFc q h) hFc (fun r w1 t H1 locs1 ht hvm hw hB hz1 hk1 hS1 => ?_)
  obtain ⟨hP1, hD1⟩ := hB
  rw [ht] at hP1
  obtain ⟨hP2, hD2⟩ := va_join (wr := wr) (w1 := w1) hP hD isC isR hC hR hnR hdis hk1 hFc hP1 hD1
  rw [hz.1, hz.2]
  exact kk r w1 hw H1 locs1 ls hP2 hD2 hS1 hl
theorem j_cVv (C : Cx p R s m args c cc nL own D (cyI, cyZ, cyO) A) {y' : MethodName} {cc' : ByteArray} {maxL' n index : Nat} {rm' : Room} {As : List Value} {wc wr : va_W} {st' : List Value} {pc' : Nat} {b ci : Nat} {q : vw_C} {fs : List Value} {Qr : va_W → Prop} (hM : Kv l y' cc' maxL' rm' D (cyI, cyZ, cyO) (.ref b :: As) wc Qr) (hY : Yv y' cc' maxL' (none) n) (hlink : Cond.methodLink own index y' ∈ lw_T) (isC isR : List Nat) (hC : isC.map (fun i => w[i]?) = wc.map some) (hnC : va_nd isC = true) (hR : isR.map (fun i => w[i]?) = wr.map some) (hnR : va_nd isR = true) (hdis : ∀ i ∈ isR, i ∉ isC) (hc : vwCl[ci]? = some q) (hcn : q.1 = y'.cls) (he : wc[0]? = some (b, .inr (ci, fs))) (hdg : decode cc pc = .ok (.invokevirtual index, 3)) (hp : pc + 3 = pc') (hst : st' = As.reverse ++ .ref b :: st) (hn : As.length = n) (hcat : (st.map fun v => v.category).sum ≤ 8) (hRm : rm'.frames + 1 ≤ R.frames ∧ 8 + (maxL' + 11) + rm'.locals ≤ R.locals) (hf : cells + rm'.cells ≤ R.cells ∧ slots + rm'.slots ≤ R.slots) (hz : rm'.cells = 0 ∧ rm'.slots = 0) (kk : ∀ (w1 : va_W), Qr w1 → J p l e R s m args below meth c cells slots (Q) D A nL (wr ++ w1) pc' (lv) (st)) : J p l e R s m args below meth c cells slots (Q) D A nL (w) pc (lv) (st') := by
  subst hp; subst hst
  intro H locs ls hP hD hS hl
  have hPc := hP.sub isC (fm_of_map hC)
  have hDc := hD.sub isC hnC hC
  have hFc := va_free (wc := wc) hD hS C.2.2.2.2.2.2.1 isC hC
  refine va_callv (va_runV (As := As) (rest := st) ⟨C.1, C.2.1, C.2.2.1, C.2.2.2.1, C.2.2.2.2.1⟩ (hM H.size) ⟨callB_of n C.2.2.2.2.1 (T_in hY.1) rfl rfl rfl (C.2.2.2.2.1 _ hY.2.2.2.1) (C.2.2.2.2.1 _ hlink) hY.2.2.2.2 hRm, C.2.2.2.2.1 _ hY.2.1, C.2.2.2.2.1 _ hY.2.2.1⟩ ⟨pz_blind, hcn ▸ va_recv C.2.2.2.2.2.1 hPc hc he, pz_pre C hS hPc hDc hFc⟩ rfl hn hl.1 rfl (lv_room hcat) hdg hf) hS (fun q _ h => hFc q h) hFc (fun w1 t H1 locs1 ht hvm hw hB hz1 hk1 hS1 => ?_)
  obtain ⟨hP1, hD1⟩ := hB
  rw [ht] at hP1
  obtain ⟨hP2, hD2⟩ := va_join (wr := wr) (w1 := w1) hP hD isC isR hC hR hnR hdis hk1 hFc hP1 hD1
  rw [hz.1, hz.2]
  exact kk w1 hw H1 locs1 ls hP2 hD2 hS1 hl
theorem j_cSv (C : Cx p R s m args c cc nL own D (cyI, cyZ, cyO) A) {y' : MethodName} {cc' : ByteArray} {maxL' n index : Nat} {rm' : Room} {As : List Value} {wc wr : va_W} {st' : List Value} {pc' : Nat} {Qr : va_W → Prop} (hM : Kv l y' cc' maxL' rm' D (cyI, cyZ, cyO) As wc Qr) (hY : Ys y' cc' maxL' (none) n) (hlink : Cond.methodLink own index y' ∈ lw_T) (isC isR : List Nat) (hC : isC.map (fun i => w[i]?) = wc.map some) (hnC : va_nd isC = true) (hR : isR.map (fun i => w[i]?) = wr.map some) (hnR : va_nd isR = true) (hdis : ∀ i ∈ isR, i ∉ isC) (hdg : decode cc pc = .ok (.invokestatic index, 3)) (hp : pc + 3 = pc') (hst : st' = As.reverse ++ st) (hn : As.length = n) (hcat : (st.map fun v => v.category).sum ≤ 8) (hRm : rm'.frames + 1 ≤ R.frames ∧ 8 + (maxL' + 11) + rm'.locals ≤ R.locals) (hf : cells + rm'.cells ≤ R.cells ∧ slots + rm'.slots ≤ R.slots) (hz : rm'.cells = 0 ∧ rm'.slots = 0) (kk : ∀ (w1 : va_W), Qr w1 → J p l e R s m args below meth c cells slots (Q) D A nL (wr ++ w1) pc' (lv) (st)) : J p l e R s m args below meth c cells slots (Q) D A nL (w) pc (lv) (st') := by
  subst hp; subst hst
  intro H locs ls hP hD hS hl
  have hPc := hP.sub isC (fm_of_map hC)
  have hDc := hD.sub isC hnC hC
  have hFc := va_free (wc := wc) hD hS C.2.2.2.2.2.2.1 isC hC
  refine va_callv (va_runS (As := As) (rest := st) ⟨C.1, C.2.1, C.2.2.1, C.2.2.2.1, C.2.2.2.2.1⟩ (hM H.size) ⟨callB_of n C.2.2.2.2.1 (T_in hY.1) rfl rfl rfl (C.2.2.2.2.1 _ hY.2.2.1) (C.2.2.2.2.1 _ hlink) hY.2.2.2 hRm, C.2.2.2.2.1 _ hY.2.1⟩ ⟨pz_blind, pz_pre C hS hPc hDc hFc⟩ rfl hn hl.1 rfl (lv_room hcat) hdg hf) hS (fun q _ h => hFc q h) hFc (fun w1 t H1 locs1 ht hvm hw hB hz1 hk1 hS1 => ?_)
  obtain ⟨hP1, hD1⟩ := hB
  rw [ht] at hP1
  obtain ⟨hP2, hD2⟩ := va_join (wr := wr) (w1 := w1) hP hD isC isR hC hR hnR hdis hk1 hFc hP1 hD1
  rw [hz.1, hz.2]
  exact kk w1 hw H1 locs1 ls hP2 hD2 hS1 hl
theorem j_cI (C : Cx p R s m args c cc nL own D (cyI, cyZ, cyO) A) {y' : MethodName} {cc' : ByteArray} {maxL' n index : Nat} {rm' : Room} {As : List Value} {wc wr : va_W} {st' : List Value} {pc' : Nat} {b : Nat} {Qr : va_W → Prop} (hM : Kv l y' cc' maxL' rm' D (cyI, cyZ, cyO) (.ref b :: As) wc Qr) (hY : Yn y' cc' maxL' n) (hlink : Cond.methodLink own index y' ∈ lw_T) (isC isR : List Nat) (hC : isC.map (fun i => w[i]?) = wc.map some) (hnC : va_nd isC = true) (hR : isR.map (fun i => w[i]?) = wr.map some) (hnR : va_nd isR = true) (hdis : ∀ i ∈ isR, i ∉ isC) (hdg : decode cc pc = .ok (.invokespecial index, 3)) (hp : pc + 3 = pc') (hst : st' = As.reverse ++ .ref b :: st) (hn : As.length = n) (hcat : (st.map fun v => v.category).sum ≤ 8) (hRm : rm'.frames + 1 ≤ R.frames ∧ 8 + (maxL' + 11) + rm'.locals ≤ R.locals) (hf : cells + rm'.cells ≤ R.cells ∧ slots + rm'.slots ≤ R.slots) (kk : ∀ (w1 : va_W), Qr w1 → J p l e R s m args below meth c (cells + rm'.cells) (slots + rm'.slots) (Q) D A nL (wr ++ w1) pc' (lv) (st)) : J p l e R s m args below meth c cells slots (Q) D A nL (w) pc (lv) (st') := by
  subst hp; subst hst
  intro H locs ls hP hD hS hl
  have hPc := hP.sub isC (fm_of_map hC)
  have hDc := hD.sub isC hnC hC
  have hFc := va_free (wc := wc) hD hS C.2.2.2.2.2.2.1 isC hC
  refine va_callv (va_runI (As := As) (rest := st) ⟨C.1, C.2.1, C.2.2.1, C.2.2.2.1, C.2.2.2.2.1⟩ (hM H.size) ⟨callB_of n C.2.2.2.2.1 (T_in hY.1) rfl rfl rfl (C.2.2.2.2.1 _ hY.2.2.1) (C.2.2.2.2.1 _ hlink) hY.2.2.2.2 hRm, hY.2.2.2.1, C.2.2.2.2.1 _ hY.2.1⟩ ⟨pz_blind, pz_pre C hS hPc hDc hFc⟩ rfl hn hl.1 rfl (lv_room hcat) hdg hf) hS (fun q _ h => hFc q h) hFc (fun w1 t H1 locs1 ht hvm hw hB hz1 hk1 hS1 => ?_)
  obtain ⟨hP1, hD1⟩ := hB
  rw [ht] at hP1
  obtain ⟨hP2, hD2⟩ := va_join (wr := wr) (w1 := w1) hP hD isC isR hC hR hnR hdis hk1 hFc hP1 hD1
  exact kk w1 hw H1 locs1 ls hP2 hD2 hS1 hl
theorem j_cN (C : Cx p R s m args c cc nL own D (cyI, cyZ, cyO) A) {y' : MethodName} {cc' : ByteArray} {maxL' n index : Nat} {rm' : Room} {As : List Value} {wc wr : va_W} {st' : List Value} {pc' : Nat} {b : Nat} {host : String} {Qr : va_W → Prop} (hM : Kv l y' cc' maxL' rm' D (cyI, cyZ, cyO) (.ref b :: As) wc Qr) (hY : Yn y' cc' maxL' n) (hlink : va_Nw (.methodLinkNest own index y' host) s) (isC isR : List Nat) (hC : isC.map (fun i => w[i]?) = wc.map some) (hnC : va_nd isC = true) (hR : isR.map (fun i => w[i]?) = wr.map some) (hnR : va_nd isR = true) (hdis : ∀ i ∈ isR, i ∉ isC) (hdg : decode cc pc = .ok (.invokespecial index, 3)) (hp : pc + 3 = pc') (hst : st' = As.reverse ++ .ref b :: st) (hn : As.length = n) (hcat : (st.map fun v => v.category).sum ≤ 8) (hRm : rm'.frames + 1 ≤ R.frames ∧ 8 + (maxL' + 11) + rm'.locals ≤ R.locals) (hf : cells + rm'.cells ≤ R.cells ∧ slots + rm'.slots ≤ R.slots) (kk : ∀ (w1 : va_W), Qr w1 → J p l e R s m args below meth c (cells + rm'.cells) (slots + rm'.slots) (Q) D A nL (wr ++ w1) pc' (lv) (st)) : J p l e R s m args below meth c cells slots (Q) D A nL (w) pc (lv) (st') := by
  subst hp; subst hst
  intro H locs ls hP hD hS hl
  have hPc := hP.sub isC (fm_of_map hC)
  have hDc := hD.sub isC hnC hC
  have hFc := va_free (wc := wc) hD hS C.2.2.2.2.2.2.1 isC hC
  refine va_callv (va_runIN (As := As) (rest := st) (host := host) ⟨C.1, C.2.1, C.2.2.1, C.2.2.2.1, C.2.2.2.2.1⟩ (hM H.size) ⟨va_cnB n C.2.2.2.2.1 (T_in hY.1) rfl rfl rfl hlink (C.2.2.2.2.1 _ hY.2.2.1) hY.2.2.2.2 hRm, hY.2.2.2.1, C.2.2.2.2.1 _ hY.2.1⟩ ⟨pz_blind, pz_pre C hS hPc hDc hFc⟩ rfl hn hl.1 rfl (lv_room hcat) hdg hf) hS (fun q _ h => hFc q h) hFc (fun w1 t H1 locs1 ht hvm hw hB hz1 hk1 hS1 => ?_)
  obtain ⟨hP1, hD1⟩ := hB
  rw [ht] at hP1
  obtain ⟨hP2, hD2⟩ := va_join (wr := wr) (w1 := w1) hP hD isC isR hC hR hnR hdis hk1 hFc hP1 hD1
  exact kk w1 hw H1 locs1 ls hP2 hD2 hS1 hl
theorem j_cSl (C : Cx p R s m args c cc nL own D (cyI, cyZ, cyO) A) {y' : MethodName} {cc' : ByteArray} {maxL' n index : Nat} {rm' : Room} {As : List Value} {wc wr : va_W} {st' : List Value} {pc' : Nat} {rt : FieldType} {Qr : Int64 → va_W → Prop} (hM : Kl l y' cc' maxL' rt rm' D (cyI, cyZ, cyO) As wc Qr) (hY : Ys y' cc' maxL' (some rt) n) (hlink : Cond.methodLink own index y' ∈ lw_T) (isC isR : List Nat) (hC : isC.map (fun i => w[i]?) = wc.map some) (hnC : va_nd isC = true) (hR : isR.map (fun i => w[i]?) = wr.map some) (hnR : va_nd isR = true) (hdis : ∀ i ∈ isR, i ∉ isC) (hdg : decode cc pc = .ok (.invokestatic index, 3)) (hp : pc + 3 = pc') (hst : st' = As.reverse ++ st) (hn : As.length = n) (hcat : (st.map fun v => v.category).sum ≤ 8) (hRm : rm'.frames + 1 ≤ R.frames ∧ 8 + (maxL' + 11) + rm'.locals ≤ R.locals) (hf : cells + rm'.cells ≤ R.cells ∧ slots + rm'.slots ≤ R.slots) (hz : rm'.cells = 0 ∧ rm'.slots = 0) (kk : ∀ (r : Int64) (w1 : va_W), Qr r w1 → J p l e R s m args below meth c cells slots (Q) D A nL (wr ++ w1) pc' (lv) (.long r :: st)) : J p l e R s m args below meth c cells slots (Q) D A nL (w) pc (lv) (st') := by
  subst hp; subst hst
  intro H locs ls hP hD hS hl
  have hPc := hP.sub isC (fm_of_map hC)
  have hDc := hD.sub isC hnC hC
  have hFc := va_free (wc := wc) hD hS C.2.2.2.2.2.2.1 isC hC
  refine va_calll (va_runS (As := As) (rest := st) ⟨C.1, C.2.1, C.2.2.1, C.2.2.2.1, C.2.2.2.2.1⟩ (hM H.size) ⟨callB_of n C.2.2.2.2.1 (T_in hY.1) rfl rfl rfl (C.2.2.2.2.1 _ hY.2.2.1) (C.2.2.2.2.1 _ hlink) hY.2.2.2 hRm, C.2.2.2.2.1 _ hY.2.1⟩ ⟨pz_blind, pz_pre C hS hPc hDc hFc⟩ rfl hn hl.1 rfl (lv_room hcat) hdg hf) hS (fun q _ h => hFc q h) hFc (fun r w1 t H1 locs1 ht hvm hw hB hz1 hk1 hS1 => ?_)
  obtain ⟨hP1, hD1⟩ := hB
  rw [ht] at hP1
  obtain ⟨hP2, hD2⟩ := va_join (wr := wr) (w1 := w1) hP hD isC isR hC hR hnR hdis hk1 hFc hP1 hD1
  rw [hz.1, hz.2]
  exact kk r w1 hw H1 locs1 ls hP2 hD2 hS1 hl
theorem j_obj (C : Cx p R s m args c cc nL own D (cyI, cyZ, cyO) A) {a index : Nat} {pc' : Nat} (hlink : Cond.methodLink own index objectInit ∈ lw_T) (hin : Cond.instanceMethod objectInit ∈ lw_T) (hco : Cond.code objectInit ⟨#[0xb1]⟩ 1 none ∈ lw_T) (hdg : decode cc pc = .ok (.invokespecial index, 3)) (hp : pc + 3 = pc') (hf : 1 ≤ R.frames) (hlo : (st.map fun v => v.category).sum + 12 ≤ R.locals) (k : J p l e R s m args below meth c cells slots (Q) D A nL (w) pc' (lv) (st)) : J p l e R s m args below meth c cells slots (Q) D A nL (w) pc (lv) (.ref a :: st) := by
  subst hp; exact fun H locs ls hP hD hS hl => W.objInit (g := F0 m pc ls (.ref a :: st)) C.1 C.2.1 C.2.2.2.1 (C.2.2.2.2.1 _ hlink) (C.2.2.2.2.1 _ hin) (C.2.2.2.2.1 _ hco) rfl (by rw [C.2.2.1]; exact hl.1) rfl hdg hf (by show 2 * 0 + _ + 12 ≤ _; omega) (k H locs ls hP hD hS hl)
theorem j_new (C : Cx p R s m args c cc nL own D (cyI, cyZ, cyO) A) {ci N index : Nat} {CN : String} {T : u_T} {ty : Nat → FieldType} {fs : List Value} {pc' : Nat} (hk0 : Ko ci CN T N ty) (hcl : Cond.classLink own index CN ∈ lw_T) (hins : Cond.instantiable CN N ∈ lw_T) (hini : Cond.initialized CN ∈ lw_T) (hfs : ∀ j, j < N → defaultValue (ty j) = vp_V fs j) (hcells : cells + 1 ≤ R.cells) (hslots : slots + N ≤ R.slots) (hdg : decode cc pc = .ok (.new index, 3)) (hp : pc + 3 = pc') (k : ∀ q : Nat, J p l e R s m args below meth c (cells + 1) (slots + N) (Q) D A nL (w ++ [(q, .inr (ci, fs))]) pc' (lv) (.ref q :: st)) : J p l e R s m args below meth c cells slots (Q) D A nL (w) pc (lv) (st) := by
  subst hp; exact fun H locs ls hP hD hS hl => va_new C.1 C.2.1 C.2.2.2.2.1 hk0.1 ty hk0.2.1 C.2.2.2.1 (C.2.2.2.2.1 _ hcl) (C.2.2.2.2.1 _ hins) (C.2.2.2.2.1 _ hini) C.2.2.2.2.2.1 hP hD hS C.2.2.2.2.2.2.1 hk0.2.2.2 hfs hcells hslots hdg (fun q H1 hP1 hD1 hS1 => k q H1 locs ls hP1 hD1 hS1 hl)
theorem j_newI (C : Cx p R s m args c cc nL own D (cyI, cyZ, cyO) A) {n : Nat} {pc' : Nat} (harr : Cond.arrayClass .int ∈ lw_T) (hn : n ≤ 100000) (hcells : cells + 1 ≤ R.cells) (hslots : slots + n ≤ R.slots) (hdg : decode cc pc = .ok (.newarray .int, 2)) (hp : pc + 2 = pc') (k : ∀ q : Nat, J p l e R s m args below meth c (cells + 1) (slots + n) (Q) D A nL (w ++ [(q, .inl (cyI, n, .inl (nA (fun _ => 0))))]) pc' (lv) (.ref q :: st)) : J p l e R s m args below meth c cells slots (Q) D A nL (w) pc (lv) (.int (nI n) :: st) := by
  subst hp
  intro H locs ls hP hD hS hl
  refine va_newa (atype := .int) (ty := .int) (N' := n) (a0 := (n, .inl (nA (fun _ => 0)))) C.1 C.2.1 (C.2.2.2.2.1 _ harr) rfl C.2.2.2.2.2.1 hP hD hS C.2.2.2.2.2.2.1 (fun cA => rfl) (nI_pos (by omega)) (nI_clamp (by omega)) (by simp only [componentBytes]; omega) hcells hslots hdg (fun q cA H1 hK1 hP1 hD1 hS1 => ?_)
  have e1 := (hK1.2 3 (cA, .int) rfl).2
  have e2 := (C.2.2.2.2.2.1.2 0 (cyI, .int) rfl).2
  have e3 : cA = cyI := Option.some.inj (e1.symm.trans e2)
  subst e3
  exact k q H1 locs ls hP1 hD1 hS1 hl
theorem j_newZ (C : Cx p R s m args c cc nL own D (cyI, cyZ, cyO) A) {n : Nat} {pc' : Nat} (harr : Cond.arrayClass .boolean ∈ lw_T) (hn : n ≤ 100000) (hcells : cells + 1 ≤ R.cells) (hslots : slots + n ≤ R.slots) (hdg : decode cc pc = .ok (.newarray .boolean, 2)) (hp : pc + 2 = pc') (k : ∀ q : Nat, J p l e R s m args below meth c (cells + 1) (slots + n) (Q) D A nL (w ++ [(q, .inl (cyZ, n, .inl (bA (fun _ => false))))]) pc' (lv) (.ref q :: st)) : J p l e R s m args below meth c cells slots (Q) D A nL (w) pc (lv) (.int (nI n) :: st) := by
  subst hp
  intro H locs ls hP hD hS hl
  refine va_newa (atype := .boolean) (ty := .boolean) (N' := n) (a0 := (n, .inl (bA (fun _ => false)))) C.1 C.2.1 (C.2.2.2.2.1 _ harr) rfl C.2.2.2.2.2.1 hP hD hS C.2.2.2.2.2.2.1 (fun cA => rfl) (nI_pos (by omega)) (nI_clamp (by omega)) (by simp only [componentBytes]; omega) hcells hslots hdg (fun q cA H1 hK1 hP1 hD1 hS1 => ?_)
  have e1 := (hK1.2 3 (cA, .boolean) rfl).2
  have e2 := (C.2.2.2.2.2.1.2 1 (cyZ, .boolean) rfl).2
  have e3 : cA = cyZ := Option.some.inj (e1.symm.trans e2)
  subst e3
  exact k q H1 locs ls hP1 hD1 hS1 hl
theorem j_loop1 {A1 : Type} (w : A1 → va_W) (lv : A1 → List (Nat × Value)) (st : A1 → List Value) (I : A1 → Prop) (μ : A1 → Nat) (body : ∀ (a1 : A1), I a1 → (∀ (b1 : A1), I b1 → μ b1 < μ a1 → J p l e R s m args below meth c cells slots (Q) D A nL (w b1) pc (lv b1) (st b1)) → J p l e R s m args below meth c cells slots (Q) D A nL (w a1) pc (lv a1) (st a1)) (a1 : A1) (h : I a1) : J p l e R s m args below meth c cells slots (Q) D A nL (w a1) pc (lv a1) (st a1) := by
  have key : ∀ (n : Nat) (a1 : A1), I a1 → μ a1 < n → J p l e R s m args below meth c cells slots (Q) D A nL (w a1) pc (lv a1) (st a1) := by
    intro n
    induction n with
    | zero => intro a1 _ h; exact absurd h (Nat.not_lt_zero _)
    | succ n ih => exact fun a1 hI hm => body a1 hI (fun b1 hb hl => ih b1 hb (Nat.lt_of_lt_of_le hl (Nat.le_of_lt_succ hm)))
  exact key _ a1 h (Nat.lt_succ_self _)
theorem j_cut1 {A1 : Type} {w0 : va_W} {pc0 : Nat} {lv0 : List (Nat × Value)} {st0 : List Value} (pc : Nat) (w : A1 → va_W) (lv : A1 → List (Nat × Value)) (st : A1 → List Value) (I : A1 → Prop) (body : ∀ (a1 : A1), I a1 → J p l e R s m args below meth c cells slots (Q) D A nL (w a1) pc (lv a1) (st a1)) (k : (∀ (a1 : A1), I a1 → J p l e R s m args below meth c cells slots (Q) D A nL (w a1) pc (lv a1) (st a1)) → J p l e R s m args below meth c cells slots (Q) D A nL (w0) pc0 (lv0) (st0)) : J p l e R s m args below meth c cells slots (Q) D A nL (w0) pc0 (lv0) (st0) := k body
theorem j_loop2 {A1 A2 : Type} (w : A1 → A2 → va_W) (lv : A1 → A2 → List (Nat × Value)) (st : A1 → A2 → List Value) (I : A1 → A2 → Prop) (μ : A1 → A2 → Nat) (body : ∀ (a1 : A1) (a2 : A2), I a1 a2 → (∀ (b1 : A1) (b2 : A2), I b1 b2 → μ b1 b2 < μ a1 a2 → J p l e R s m args below meth c cells slots (Q) D A nL (w b1 b2) pc (lv b1 b2) (st b1 b2)) → J p l e R s m args below meth c cells slots (Q) D A nL (w a1 a2) pc (lv a1 a2) (st a1 a2)) (a1 : A1) (a2 : A2) (h : I a1 a2) : J p l e R s m args below meth c cells slots (Q) D A nL (w a1 a2) pc (lv a1 a2) (st a1 a2) := by
  have key : ∀ (n : Nat) (a1 : A1) (a2 : A2), I a1 a2 → μ a1 a2 < n → J p l e R s m args below meth c cells slots (Q) D A nL (w a1 a2) pc (lv a1 a2) (st a1 a2) := by
    intro n
    induction n with
    | zero => intro a1 a2 _ h; exact absurd h (Nat.not_lt_zero _)
    | succ n ih => exact fun a1 a2 hI hm => body a1 a2 hI (fun b1 b2 hb hl => ih b1 b2 hb (Nat.lt_of_lt_of_le hl (Nat.le_of_lt_succ hm)))
  exact key _ a1 a2 h (Nat.lt_succ_self _)
theorem j_cut2 {A1 A2 : Type} {w0 : va_W} {pc0 : Nat} {lv0 : List (Nat × Value)} {st0 : List Value} (pc : Nat) (w : A1 → A2 → va_W) (lv : A1 → A2 → List (Nat × Value)) (st : A1 → A2 → List Value) (I : A1 → A2 → Prop) (body : ∀ (a1 : A1) (a2 : A2), I a1 a2 → J p l e R s m args below meth c cells slots (Q) D A nL (w a1 a2) pc (lv a1 a2) (st a1 a2)) (k : (∀ (a1 : A1) (a2 : A2), I a1 a2 → J p l e R s m args below meth c cells slots (Q) D A nL (w a1 a2) pc (lv a1 a2) (st a1 a2)) → J p l e R s m args below meth c cells slots (Q) D A nL (w0) pc0 (lv0) (st0)) : J p l e R s m args below meth c cells slots (Q) D A nL (w0) pc0 (lv0) (st0) := k body
theorem j_loop3 {A1 A2 A3 : Type} (w : A1 → A2 → A3 → va_W) (lv : A1 → A2 → A3 → List (Nat × Value)) (st : A1 → A2 → A3 → List Value) (I : A1 → A2 → A3 → Prop) (μ : A1 → A2 → A3 → Nat) (body : ∀ (a1 : A1) (a2 : A2) (a3 : A3), I a1 a2 a3 → (∀ (b1 : A1) (b2 : A2) (b3 : A3), I b1 b2 b3 → μ b1 b2 b3 < μ a1 a2 a3 → J p l e R s m args below meth c cells slots (Q) D A nL (w b1 b2 b3) pc (lv b1 b2 b3) (st b1 b2 b3)) → J p l e R s m args below meth c cells slots (Q) D A nL (w a1 a2 a3) pc (lv a1 a2 a3) (st a1 a2 a3)) (a1 : A1) (a2 : A2) (a3 : A3) (h : I a1 a2 a3) : J p l e R s m args below meth c cells slots (Q) D A nL (w a1 a2 a3) pc (lv a1 a2 a3) (st a1 a2 a3) := by
  have key : ∀ (n : Nat) (a1 : A1) (a2 : A2) (a3 : A3), I a1 a2 a3 → μ a1 a2 a3 < n → J p l e R s m args below meth c cells slots (Q) D A nL (w a1 a2 a3) pc (lv a1 a2 a3) (st a1 a2 a3) := by
    intro n
    induction n with
    | zero => intro a1 a2 a3 _ h; exact absurd h (Nat.not_lt_zero _)
    | succ n ih => exact fun a1 a2 a3 hI hm => body a1 a2 a3 hI (fun b1 b2 b3 hb hl => ih b1 b2 b3 hb (Nat.lt_of_lt_of_le hl (Nat.le_of_lt_succ hm)))
  exact key _ a1 a2 a3 h (Nat.lt_succ_self _)
theorem j_cut3 {A1 A2 A3 : Type} {w0 : va_W} {pc0 : Nat} {lv0 : List (Nat × Value)} {st0 : List Value} (pc : Nat) (w : A1 → A2 → A3 → va_W) (lv : A1 → A2 → A3 → List (Nat × Value)) (st : A1 → A2 → A3 → List Value) (I : A1 → A2 → A3 → Prop) (body : ∀ (a1 : A1) (a2 : A2) (a3 : A3), I a1 a2 a3 → J p l e R s m args below meth c cells slots (Q) D A nL (w a1 a2 a3) pc (lv a1 a2 a3) (st a1 a2 a3)) (k : (∀ (a1 : A1) (a2 : A2) (a3 : A3), I a1 a2 a3 → J p l e R s m args below meth c cells slots (Q) D A nL (w a1 a2 a3) pc (lv a1 a2 a3) (st a1 a2 a3)) → J p l e R s m args below meth c cells slots (Q) D A nL (w0) pc0 (lv0) (st0)) : J p l e R s m args below meth c cells slots (Q) D A nL (w0) pc0 (lv0) (st0) := k body
theorem j_loop4 {A1 A2 A3 A4 : Type} (w : A1 → A2 → A3 → A4 → va_W) (lv : A1 → A2 → A3 → A4 → List (Nat × Value)) (st : A1 → A2 → A3 → A4 → List Value) (I : A1 → A2 → A3 → A4 → Prop) (μ : A1 → A2 → A3 → A4 → Nat) (body : ∀ (a1 : A1) (a2 : A2) (a3 : A3) (a4 : A4), I a1 a2 a3 a4 → (∀ (b1 : A1) (b2 : A2) (b3 : A3) (b4 : A4), I b1 b2 b3 b4 → μ b1 b2 b3 b4 < μ a1 a2 a3 a4 → J p l e R s m args below meth c cells slots (Q) D A nL (w b1 b2 b3 b4) pc (lv b1 b2 b3 b4) (st b1 b2 b3 b4)) → J p l e R s m args below meth c cells slots (Q) D A nL (w a1 a2 a3 a4) pc (lv a1 a2 a3 a4) (st a1 a2 a3 a4)) (a1 : A1) (a2 : A2) (a3 : A3) (a4 : A4) (h : I a1 a2 a3 a4) : J p l e R s m args below meth c cells slots (Q) D A nL (w a1 a2 a3 a4) pc (lv a1 a2 a3 a4) (st a1 a2 a3 a4) := by
  have key : ∀ (n : Nat) (a1 : A1) (a2 : A2) (a3 : A3) (a4 : A4), I a1 a2 a3 a4 → μ a1 a2 a3 a4 < n → J p l e R s m args below meth c cells slots (Q) D A nL (w a1 a2 a3 a4) pc (lv a1 a2 a3 a4) (st a1 a2 a3 a4) := by
    intro n
    induction n with
    | zero => intro a1 a2 a3 a4 _ h; exact absurd h (Nat.not_lt_zero _)
    | succ n ih => exact fun a1 a2 a3 a4 hI hm => body a1 a2 a3 a4 hI (fun b1 b2 b3 b4 hb hl => ih b1 b2 b3 b4 hb (Nat.lt_of_lt_of_le hl (Nat.le_of_lt_succ hm)))
  exact key _ a1 a2 a3 a4 h (Nat.lt_succ_self _)
theorem j_cut4 {A1 A2 A3 A4 : Type} {w0 : va_W} {pc0 : Nat} {lv0 : List (Nat × Value)} {st0 : List Value} (pc : Nat) (w : A1 → A2 → A3 → A4 → va_W) (lv : A1 → A2 → A3 → A4 → List (Nat × Value)) (st : A1 → A2 → A3 → A4 → List Value) (I : A1 → A2 → A3 → A4 → Prop) (body : ∀ (a1 : A1) (a2 : A2) (a3 : A3) (a4 : A4), I a1 a2 a3 a4 → J p l e R s m args below meth c cells slots (Q) D A nL (w a1 a2 a3 a4) pc (lv a1 a2 a3 a4) (st a1 a2 a3 a4)) (k : (∀ (a1 : A1) (a2 : A2) (a3 : A3) (a4 : A4), I a1 a2 a3 a4 → J p l e R s m args below meth c cells slots (Q) D A nL (w a1 a2 a3 a4) pc (lv a1 a2 a3 a4) (st a1 a2 a3 a4)) → J p l e R s m args below meth c cells slots (Q) D A nL (w0) pc0 (lv0) (st0)) : J p l e R s m args below meth c cells slots (Q) D A nL (w0) pc0 (lv0) (st0) := k body
theorem j_loop5 {A1 A2 A3 A4 A5 : Type} (w : A1 → A2 → A3 → A4 → A5 → va_W) (lv : A1 → A2 → A3 → A4 → A5 → List (Nat × Value)) (st : A1 → A2 → A3 → A4 → A5 → List Value) (I : A1 → A2 → A3 → A4 → A5 → Prop) (μ : A1 → A2 → A3 → A4 → A5 → Nat) (body : ∀ (a1 : A1) (a2 : A2) (a3 : A3) (a4 : A4) (a5 : A5), I a1 a2 a3 a4 a5 → (∀ (b1 : A1) (b2 : A2) (b3 : A3) (b4 : A4) (b5 : A5), I b1 b2 b3 b4 b5 → μ b1 b2 b3 b4 b5 < μ a1 a2 a3 a4 a5 → J p l e R s m args below meth c cells slots (Q) D A nL (w b1 b2 b3 b4 b5) pc (lv b1 b2 b3 b4 b5) (st b1 b2 b3 b4 b5)) → J p l e R s m args below meth c cells slots (Q) D A nL (w a1 a2 a3 a4 a5) pc (lv a1 a2 a3 a4 a5) (st a1 a2 a3 a4 a5)) (a1 : A1) (a2 : A2) (a3 : A3) (a4 : A4) (a5 : A5) (h : I a1 a2 a3 a4 a5) : J p l e R s m args below meth c cells slots (Q) D A nL (w a1 a2 a3 a4 a5) pc (lv a1 a2 a3 a4 a5) (st a1 a2 a3 a4 a5) := by
  have key : ∀ (n : Nat) (a1 : A1) (a2 : A2) (a3 : A3) (a4 : A4) (a5 : A5), I a1 a2 a3 a4 a5 → μ a1 a2 a3 a4 a5 < n → J p l e R s m args below meth c cells slots (Q) D A nL (w a1 a2 a3 a4 a5) pc (lv a1 a2 a3 a4 a5) (st a1 a2 a3 a4 a5) := by
    intro n
    induction n with
    | zero => intro a1 a2 a3 a4 a5 _ h; exact absurd h (Nat.not_lt_zero _)
    | succ n ih => exact fun a1 a2 a3 a4 a5 hI hm => body a1 a2 a3 a4 a5 hI (fun b1 b2 b3 b4 b5 hb hl => ih b1 b2 b3 b4 b5 hb (Nat.lt_of_lt_of_le hl (Nat.le_of_lt_succ hm)))
  exact key _ a1 a2 a3 a4 a5 h (Nat.lt_succ_self _)
theorem j_cut5 {A1 A2 A3 A4 A5 : Type} {w0 : va_W} {pc0 : Nat} {lv0 : List (Nat × Value)} {st0 : List Value} (pc : Nat) (w : A1 → A2 → A3 → A4 → A5 → va_W) (lv : A1 → A2 → A3 → A4 → A5 → List (Nat × Value)) (st : A1 → A2 → A3 → A4 → A5 → List Value) (I : A1 → A2 → A3 → A4 → A5 → Prop) (body : ∀ (a1 : A1) (a2 : A2) (a3 : A3) (a4 : A4) (a5 : A5), I a1 a2 a3 a4 a5 → J p l e R s m args below meth c cells slots (Q) D A nL (w a1 a2 a3 a4 a5) pc (lv a1 a2 a3 a4 a5) (st a1 a2 a3 a4 a5)) (k : (∀ (a1 : A1) (a2 : A2) (a3 : A3) (a4 : A4) (a5 : A5), I a1 a2 a3 a4 a5 → J p l e R s m args below meth c cells slots (Q) D A nL (w a1 a2 a3 a4 a5) pc (lv a1 a2 a3 a4 a5) (st a1 a2 a3 a4 a5)) → J p l e R s m args below meth c cells slots (Q) D A nL (w0) pc0 (lv0) (st0)) : J p l e R s m args below meth c cells slots (Q) D A nL (w0) pc0 (lv0) (st0) := k body
theorem j_loop6 {A1 A2 A3 A4 A5 A6 : Type} (w : A1 → A2 → A3 → A4 → A5 → A6 → va_W) (lv : A1 → A2 → A3 → A4 → A5 → A6 → List (Nat × Value)) (st : A1 → A2 → A3 → A4 → A5 → A6 → List Value) (I : A1 → A2 → A3 → A4 → A5 → A6 → Prop) (μ : A1 → A2 → A3 → A4 → A5 → A6 → Nat) (body : ∀ (a1 : A1) (a2 : A2) (a3 : A3) (a4 : A4) (a5 : A5) (a6 : A6), I a1 a2 a3 a4 a5 a6 → (∀ (b1 : A1) (b2 : A2) (b3 : A3) (b4 : A4) (b5 : A5) (b6 : A6), I b1 b2 b3 b4 b5 b6 → μ b1 b2 b3 b4 b5 b6 < μ a1 a2 a3 a4 a5 a6 → J p l e R s m args below meth c cells slots (Q) D A nL (w b1 b2 b3 b4 b5 b6) pc (lv b1 b2 b3 b4 b5 b6) (st b1 b2 b3 b4 b5 b6)) → J p l e R s m args below meth c cells slots (Q) D A nL (w a1 a2 a3 a4 a5 a6) pc (lv a1 a2 a3 a4 a5 a6) (st a1 a2 a3 a4 a5 a6)) (a1 : A1) (a2 : A2) (a3 : A3) (a4 : A4) (a5 : A5) (a6 : A6) (h : I a1 a2 a3 a4 a5 a6) : J p l e R s m args below meth c cells slots (Q) D A nL (w a1 a2 a3 a4 a5 a6) pc (lv a1 a2 a3 a4 a5 a6) (st a1 a2 a3 a4 a5 a6) := by
  have key : ∀ (n : Nat) (a1 : A1) (a2 : A2) (a3 : A3) (a4 : A4) (a5 : A5) (a6 : A6), I a1 a2 a3 a4 a5 a6 → μ a1 a2 a3 a4 a5 a6 < n → J p l e R s m args below meth c cells slots (Q) D A nL (w a1 a2 a3 a4 a5 a6) pc (lv a1 a2 a3 a4 a5 a6) (st a1 a2 a3 a4 a5 a6) := by
    intro n
    induction n with
    | zero => intro a1 a2 a3 a4 a5 a6 _ h; exact absurd h (Nat.not_lt_zero _)
    | succ n ih => exact fun a1 a2 a3 a4 a5 a6 hI hm => body a1 a2 a3 a4 a5 a6 hI (fun b1 b2 b3 b4 b5 b6 hb hl => ih b1 b2 b3 b4 b5 b6 hb (Nat.lt_of_lt_of_le hl (Nat.le_of_lt_succ hm)))
  exact key _ a1 a2 a3 a4 a5 a6 h (Nat.lt_succ_self _)
theorem j_cut6 {A1 A2 A3 A4 A5 A6 : Type} {w0 : va_W} {pc0 : Nat} {lv0 : List (Nat × Value)} {st0 : List Value} (pc : Nat) (w : A1 → A2 → A3 → A4 → A5 → A6 → va_W) (lv : A1 → A2 → A3 → A4 → A5 → A6 → List (Nat × Value)) (st : A1 → A2 → A3 → A4 → A5 → A6 → List Value) (I : A1 → A2 → A3 → A4 → A5 → A6 → Prop) (body : ∀ (a1 : A1) (a2 : A2) (a3 : A3) (a4 : A4) (a5 : A5) (a6 : A6), I a1 a2 a3 a4 a5 a6 → J p l e R s m args below meth c cells slots (Q) D A nL (w a1 a2 a3 a4 a5 a6) pc (lv a1 a2 a3 a4 a5 a6) (st a1 a2 a3 a4 a5 a6)) (k : (∀ (a1 : A1) (a2 : A2) (a3 : A3) (a4 : A4) (a5 : A5) (a6 : A6), I a1 a2 a3 a4 a5 a6 → J p l e R s m args below meth c cells slots (Q) D A nL (w a1 a2 a3 a4 a5 a6) pc (lv a1 a2 a3 a4 a5 a6) (st a1 a2 a3 a4 a5 a6)) → J p l e R s m args below meth c cells slots (Q) D A nL (w0) pc0 (lv0) (st0)) : J p l e R s m args below meth c cells slots (Q) D A nL (w0) pc0 (lv0) (st0) := k body
theorem j_loop7 {A1 A2 A3 A4 A5 A6 A7 : Type} (w : A1 → A2 → A3 → A4 → A5 → A6 → A7 → va_W) (lv : A1 → A2 → A3 → A4 → A5 → A6 → A7 → List (Nat × Value)) (st : A1 → A2 → A3 → A4 → A5 → A6 → A7 → List Value) (I : A1 → A2 → A3 → A4 → A5 → A6 → A7 → Prop) (μ : A1 → A2 → A3 → A4 → A5 → A6 → A7 → Nat) (body : ∀ (a1 : A1) (a2 : A2) (a3 : A3) (a4 : A4) (a5 : A5) (a6 : A6) (a7 : A7), I a1 a2 a3 a4 a5 a6 a7 → (∀ (b1 : A1) (b2 : A2) (b3 : A3) (b4 : A4) (b5 : A5) (b6 : A6) (b7 : A7), I b1 b2 b3 b4 b5 b6 b7 → μ b1 b2 b3 b4 b5 b6 b7 < μ a1 a2 a3 a4 a5 a6 a7 → J p l e R s m args below meth c cells slots (Q) D A nL (w b1 b2 b3 b4 b5 b6 b7) pc (lv b1 b2 b3 b4 b5 b6 b7) (st b1 b2 b3 b4 b5 b6 b7)) → J p l e R s m args below meth c cells slots (Q) D A nL (w a1 a2 a3 a4 a5 a6 a7) pc (lv a1 a2 a3 a4 a5 a6 a7) (st a1 a2 a3 a4 a5 a6 a7)) (a1 : A1) (a2 : A2) (a3 : A3) (a4 : A4) (a5 : A5) (a6 : A6) (a7 : A7) (h : I a1 a2 a3 a4 a5 a6 a7) : J p l e R s m args below meth c cells slots (Q) D A nL (w a1 a2 a3 a4 a5 a6 a7) pc (lv a1 a2 a3 a4 a5 a6 a7) (st a1 a2 a3 a4 a5 a6 a7) := by
  have key : ∀ (n : Nat) (a1 : A1) (a2 : A2) (a3 : A3) (a4 : A4) (a5 : A5) (a6 : A6) (a7 : A7), I a1 a2 a3 a4 a5 a6 a7 → μ a1 a2 a3 a4 a5 a6 a7 < n → J p l e R s m args below meth c cells slots (Q) D A nL (w a1 a2 a3 a4 a5 a6 a7) pc (lv a1 a2 a3 a4 a5 a6 a7) (st a1 a2 a3 a4 a5 a6 a7) := by
    intro n
    induction n with
    | zero => intro a1 a2 a3 a4 a5 a6 a7 _ h; exact absurd h (Nat.not_lt_zero _)
    | succ n ih => exact fun a1 a2 a3 a4 a5 a6 a7 hI hm => body a1 a2 a3 a4 a5 a6 a7 hI (fun b1 b2 b3 b4 b5 b6 b7 hb hl => ih b1 b2 b3 b4 b5 b6 b7 hb (Nat.lt_of_lt_of_le hl (Nat.le_of_lt_succ hm)))
  exact key _ a1 a2 a3 a4 a5 a6 a7 h (Nat.lt_succ_self _)
theorem j_cut7 {A1 A2 A3 A4 A5 A6 A7 : Type} {w0 : va_W} {pc0 : Nat} {lv0 : List (Nat × Value)} {st0 : List Value} (pc : Nat) (w : A1 → A2 → A3 → A4 → A5 → A6 → A7 → va_W) (lv : A1 → A2 → A3 → A4 → A5 → A6 → A7 → List (Nat × Value)) (st : A1 → A2 → A3 → A4 → A5 → A6 → A7 → List Value) (I : A1 → A2 → A3 → A4 → A5 → A6 → A7 → Prop) (body : ∀ (a1 : A1) (a2 : A2) (a3 : A3) (a4 : A4) (a5 : A5) (a6 : A6) (a7 : A7), I a1 a2 a3 a4 a5 a6 a7 → J p l e R s m args below meth c cells slots (Q) D A nL (w a1 a2 a3 a4 a5 a6 a7) pc (lv a1 a2 a3 a4 a5 a6 a7) (st a1 a2 a3 a4 a5 a6 a7)) (k : (∀ (a1 : A1) (a2 : A2) (a3 : A3) (a4 : A4) (a5 : A5) (a6 : A6) (a7 : A7), I a1 a2 a3 a4 a5 a6 a7 → J p l e R s m args below meth c cells slots (Q) D A nL (w a1 a2 a3 a4 a5 a6 a7) pc (lv a1 a2 a3 a4 a5 a6 a7) (st a1 a2 a3 a4 a5 a6 a7)) → J p l e R s m args below meth c cells slots (Q) D A nL (w0) pc0 (lv0) (st0)) : J p l e R s m args below meth c cells slots (Q) D A nL (w0) pc0 (lv0) (st0) := k body
abbrev rmk (k : Nat) : Room := { frames := k, cells := 0, slots := 0, locals := 60 * k }
end JC
