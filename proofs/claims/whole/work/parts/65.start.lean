theorem sw_el {args : Array Value} {s : State} (h : (Jvm.Cond.and given_1 narrow_1).before args s = true) : ∀ j : Nat, j < 4 → (Term.elem (.static "SneakPaths" "STATES_OF_SWITCH" "[I") (.int (Int32.ofNat j))).eval args s none [] s = some (.int (sw_f j)) := by
  have hs := flat_of_before _ h
  intro j hj
  rcases j with _ | _ | _ | _ | j
  · exact va_eqt (hs (.eq (.elem (.static "SneakPaths" "STATES_OF_SWITCH" "[I") (.int 0)) (.int 43690)) (by decide +kernel))
  · exact va_eqt (hs (.eq (.elem (.static "SneakPaths" "STATES_OF_SWITCH" "[I") (.int 1)) (.int 52428)) (by decide +kernel))
  · exact va_eqt (hs (.eq (.elem (.static "SneakPaths" "STATES_OF_SWITCH" "[I") (.int 2)) (.int 61680)) (by decide +kernel))
  · exact va_eqt (hs (.eq (.elem (.static "SneakPaths" "STATES_OF_SWITCH" "[I") (.int 3)) (.int 65280)) (by decide +kernel))
  · exact absurd hj (by omega)
theorem w_at {x : Cond} (i : Nat) (h : lw_tbl[i]? = some x) : x ∈ lw_tbl := List.mem_of_getElem? h
set_option maxRecDepth 20000 in
theorem wn_1 : Cond.methodLinkNest RX7 9 yX2_init RX7 ∈ lw_tbl := w_at 70 (by decide +kernel)
set_option maxRecDepth 20000 in
theorem wn_2 : Cond.methodLinkNest RX2 11 yX1_init RX7 ∈ lw_tbl := w_at 76 (by decide +kernel)
set_option maxRecDepth 20000 in
theorem wn_3 : Cond.methodLinkNest RX7 18 yX1_init RX7 ∈ lw_tbl := w_at 148 (by decide +kernel)
set_option maxRecDepth 20000 in
theorem wn_4 : Cond.methodLinkNest RX7 32 yX0_init RX7 ∈ lw_tbl := w_at 185 (by decide +kernel)
set_option maxRecDepth 20000 in
theorem wn_5 : Cond.methodLinkNest RX7 39 yX3_init RX7 ∈ lw_tbl := w_at 208 (by decide +kernel)
set_option maxRecDepth 20000 in
theorem wn_6 : Cond.fieldLinkNest RX6 65 RX7 "STATES_OF_SWITCH" "[I" RX7 ∈ lw_tbl := w_at 432 (by decide +kernel)
set_option maxRecDepth 20000 in
theorem wn_7 : Cond.arrayOver (.object "SneakPaths$Setting") ∈ lw_tbl := w_at 305 (by decide +kernel)
set_option maxRecDepth 20000 in
theorem wn_8 : Cond.laysStatic RX7 "STATES_OF_SWITCH" "[I" ∈ lw_tbl := w_at 433 (by decide +kernel)
set_option maxHeartbeats 4000000 in
/-- from the law's entry to its end -/
theorem whole_start {p : Program} {e : Env} {s : State} {m : MethodId} {below : List Frame} {meth : Method} {c : Code} (l : Launch) (hflags : l.flags = flags0) {b L : Nat} {xs : Nat → Int32} (hL : L ≤ 2560) (C0 : lw_At p s m meth c b L xs) : W p l e room_1 s m #[Value.ref b] below meth c s.heap [] 0 0 (lw_Z below #[Value.ref b] s) (entryFrame m ([Value.ref b] : List Value).toArray 4) := by
  obtain ⟨hx, hb, hr, hml, hown, hts, hX, hbl, hlocks, hgv⟩ := id C0
  have hW : ∀ x ∈ lw_T, x.before #[Value.ref b] s = true := fun x hx => hts x (T_tb hx)
  obtain ⟨c0, i0, k0⟩ := u_known (C := RX0) (T := TX0) (N := 5) (n := 5) hW inT0 (hW _ is_X0)
  obtain ⟨c1, i1, k1⟩ := u_known (C := RX1) (T := TX1) (N := 8) (n := 8) hW inT1 (hW _ is_X1)
  obtain ⟨c2, i2, k2⟩ := u_known (C := RX2) (T := TX2) (N := 6) (n := 6) hW inT2 (hW _ is_X2)
  obtain ⟨c3, i3, k3⟩ := u_known (C := RX3) (T := TX3) (N := 4) (n := 4) hW inT3 (hW _ is_X3)
  obtain ⟨c4, i4, k4⟩ := u_known (C := RX4) (T := TX4) (N := 4) (n := 4) hW inT4 (hW _ is_X4)
  obtain ⟨c5, i5, k5⟩ := u_known (C := RX5) (T := TX5) (N := 12) (n := 12) hW inT5 (hW _ is_X5)
  obtain ⟨c6, i6, k6⟩ := u_known (C := RX6) (T := TX6) (N := 7) (n := 7) hW inT6 (hW _ is_X6)
  obtain ⟨c7, i7, k7⟩ := u_known (C := RX7) (T := TX7) (N := 10) (n := 10) hW inT7 (hW _ is_X7)
  obtain ⟨c8, i8, k8⟩ := u_known (C := RX8) (T := TX8) (N := 24) (n := 24) hW inT8 (hW _ is_X8)
  obtain ⟨D, hKc⟩ : ∃ D : va_G, ∀ (k : Nat) (q : vw_C), vwCl[k]? = some q → u_Kn s q.1 q.2.1 q.2.2 (D.1 k) (D.2 k) := by
    refine ⟨(fun k => if k = 0 then c0 else if k = 1 then c1 else if k = 2 then c2 else if k = 3 then c3 else if k = 4 then c4 else if k = 5 then c5 else if k = 6 then c6 else if k = 7 then c7 else c8, fun k => if k = 0 then i0 else if k = 1 then i1 else if k = 2 then i2 else if k = 3 then i3 else if k = 4 then i4 else if k = 5 then i5 else if k = 6 then i6 else if k = 7 then i7 else i8), ?_⟩
    intro k q hq
    match k, hq with
    | 0, hq => cases hq; exact k0
    | 1, hq => cases hq; exact k1
    | 2, hq => cases hq; exact k2
    | 3, hq => cases hq; exact k3
    | 4, hq => cases hq; exact k4
    | 5, hq => cases hq; exact k5
    | 6, hq => cases hq; exact k6
    | 7, hq => cases hq; exact k7
    | 8, hq => cases hq; exact k8
    | k + 9, hq => simp [vwCl] at hq
  obtain ⟨cyI, kI, oI, f1, f2, f3⟩ := Cond.arrayClass_spec (hW _ ac_int)
  obtain ⟨cyZ, kZ, oZ, g1, g2, g3⟩ := Cond.arrayClass_spec (hW _ ac_boolean)
  obtain ⟨oO, cyO, kO, h1, -, h2, h3, h4⟩ := Cond.arrayOver_spec (hts _ wn_7)
  have hK : va_K D vwCl (ty3 (cyI, cyZ, cyO)) s := by
    refine ⟨hKc, fun k q hq => ?_⟩
    match k, hq with
    | 0, hq => cases hq; exact ⟨fun N z => ⟨fun k h => (by cases h), kI, f2, oI, f3⟩, f1⟩
    | 1, hq => cases hq; exact ⟨fun N z => ⟨fun k h => (by cases h), kZ, g2, oZ, g3⟩, g1⟩
    | 2, hq => cases hq; exact ⟨fun N z => ⟨fun k h => (by cases h), kO, h2, oO, h3⟩, kO, oO, h2, h3, h1, h4⟩
    | k + 3, hq => simp [ty3] at hq
  have hAn : ∀ a : Nat, a < s.heap.size → ¬ AL s a := fun a ha => Nat.not_le.mpr ha
  obtain ⟨tS, hTe, hTS⟩ := va_Tof (A := AL s) (tm := .static "SneakPaths" "STATES_OF_SWITCH" "[I") (ty := .int) (N := 4) (f := fun j => .int (sw_f j)) (by decide) (flat_of_before _ hgv _ (by decide +kernel)) (va_eqt (flat_of_before _ hgv _ (by decide +kernel))) (sw_el hgv) hAn
  have hZS : va_Z RX7 "STATES_OF_SWITCH" "[I" (.ref tS) (AL s) s s.heap := va_Zof (hts _ wn_8) (hW _ ni_X7) hTe hAn
  have C : Cx p room_1 s m #[Value.ref b] c cL_law 4 RL D (cyI, cyZ, cyO) (AL s) := ⟨hx, hb, hml, hown, hW, hK, fun q h => h, va_Nw.of rfl (hts _ wn_1), va_Nw.of rfl (hts _ wn_2), va_Nw.of rfl (hts _ wn_3), va_Nw.of rfl (hts _ wn_4), va_Nw.of rfl (hts _ wn_5), va_Nw.of rfl (hts _ wn_6), va_AO.of (hts _ wn_7), tS, hZS, hTS⟩
  have hl := lv_entry ([.ref b]) (n := 4) (Nat.le_of_ble_eq_true rfl)
  rw [lg_entry_eq]
  exact lw_begin C hX hbl hL hr hlocks s.heap [] _ (fun k q h => by simp at h) ⟨fun i j p q h => by simp at h, fun k q h => by simp at h⟩ va_S.rf hl
