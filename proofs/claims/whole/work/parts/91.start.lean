/-! the law, from its entry -/
theorem law_cls {args : Array Value} {s : State} (hts : ∀ w ∈ tbl, w.before args s = true) : ∃ D : va_G, ∀ (c : Nat) (q : vw_C), vwCl[c]? = some q → u_Kn s q.1 q.2.1 q.2.2 (D.1 c) (D.2 c) := by
  obtain ⟨c0, s0, k0⟩ := u_known (C := RX0) (T := TX0) (N := 4) (n := 4) hts inX0 (hts _ tw_140)
  obtain ⟨c1, s1, k1⟩ := u_known (C := RX1) (T := TX1) (N := 4) (n := 4) hts inX1 (hts _ tw_71)
  obtain ⟨c2, s2, k2⟩ := u_known (C := RX2) (T := TX2) (N := 5) (n := 5) hts inX2 (hts _ tw_25)
  obtain ⟨c3, s3, k3⟩ := u_known (C := RX3) (T := TX3) (N := 4) (n := 4) hts inX3 (hts _ tw_52)
  obtain ⟨c4, s4, k4⟩ := u_known (C := RX4) (T := TX4) (N := 8) (n := 8) hts inX4 (hts _ tw_104)
  obtain ⟨c5, s5, k5⟩ := u_known (C := RX5) (T := TX5) (N := 2) (n := 2) hts inX5 (hts _ tw_77)
  obtain ⟨c6, s6, k6⟩ := u_known (C := RX6) (T := TX6) (N := 11) (n := 11) hts inX6 (hts _ tw_11)
  obtain ⟨c7, s7, k7⟩ := u_known (C := RX7) (T := TX7) (N := 34) (n := 34) hts inX7 (hts _ tw_505)
  refine ⟨(fun c => match c with | 0 => c0 | 1 => c1 | 2 => c2 | 3 => c3 | 4 => c4 | 5 => c5 | 6 => c6 | _ => c7, fun c => match c with | 0 => s0 | 1 => s1 | 2 => s2 | 3 => s3 | 4 => s4 | 5 => s5 | 6 => s6 | _ => s7), fun c q hq => ?_⟩
  match c, hq with
  | 0, hq => cases hq; exact k0
  | 1, hq => cases hq; exact k1
  | 2, hq => cases hq; exact k2
  | 3, hq => cases hq; exact k3
  | 4, hq => cases hq; exact k4
  | 5, hq => cases hq; exact k5
  | 6, hq => cases hq; exact k6
  | 7, hq => cases hq; exact k7
  | k + 8, hq => simp [vwCl] at hq
theorem arr_kI {args : Array Value} {s : State} {ty : FieldType} (h : (Cond.arrayClass ty).before args s = true) : ∃ cA : ClassId, ArrOfT s cA ty ∧ s.vm.findClass ("[" ++ ty.toString) = some cA := by
  obtain ⟨cA, kA, comp, h1, h2, h3⟩ := Cond.arrayClass_spec h
  exact ⟨cA, fun n z => ⟨fun k h => (by cases h), kA, h2, comp, h3⟩, h1⟩
theorem arr_kO {args : Array Value} {s : State} {C : String} (h : (Cond.arrayOver (.object C)).before args s = true) : ∃ cA : ClassId, ArrOfT s cA (.object C) ∧ va_RA s cA (.object C) := by
  obtain ⟨comp, c, k, h1, h2, h3, h4, h5⟩ := Cond.arrayOver_spec h
  exact ⟨c, fun n z => ⟨fun k h => (by cases h), k, h3, comp, h4⟩, k, comp, h3, h4, h1, h5⟩
theorem ao_4 : Cond.arrayOver (.object RX4) ∈ lw_tbl := List.mem_of_getElem? (i := 63) (by decide +kernel)
theorem ao_0 : Cond.arrayOver (.object RX0) ∈ lw_tbl := List.mem_of_getElem? (i := 65) (by decide +kernel)
theorem ao_5 : Cond.arrayOver (.object RX5) ∈ lw_tbl := List.mem_of_getElem? (i := 67) (by decide +kernel)
theorem nst_tabs {w : Cond} (h : isNst w = true) : w.onTables = true := by
  cases w <;> first | rfl | (exact absurd (show false = true from h) (by decide))
set_option maxHeartbeats 4000000 in
theorem whole_start {p : Program} {e : Env} {s : State} {m : MethodId} {below : List Frame} {meth : Method} {c : Code} (l : Launch) (hflags : l.flags = flags0) {b L : Nat} {xs : Nat → Int32} (hL : L ≤ 2560) (C0 : lw_At p s m meth c b L xs) : W p l e room_1 s m #[Value.ref b] below meth c s.heap [] 0 0 (lw_Z below #[Value.ref b] s) (entryFrame m ([Value.ref b] : List Value).toArray 4) := by
  obtain ⟨hx, hb, hr, hml, hown, hts, hX, hbl, hlocks, hgv⟩ := id C0
  have htb : ∀ w ∈ tbl, w.before #[Value.ref b] s = true := fun w hw => hts w (tbl_in w hw)
  obtain ⟨D, hD⟩ := law_cls htb
  obtain ⟨cI, hI1, hI2⟩ := arr_kI (htb _ tw_50)
  obtain ⟨cZ, hZ1, hZ2⟩ := arr_kI (htb _ tw_613)
  obtain ⟨c4, h41, h42⟩ := arr_kO (hts _ ao_4)
  obtain ⟨c0, h01, h02⟩ := arr_kO (hts _ ao_0)
  obtain ⟨c5, h51, h52⟩ := arr_kO (hts _ ao_5)
  obtain ⟨V, hV⟩ : ∃ V : VX, V = (D, fun k => s.heap.size + perm k, fun t => match t with | 0 => cI | 1 => cZ | 2 => c4 | 3 => c0 | _ => c5) := ⟨_, rfl⟩
  have hVk : ∀ k, k < 103 → V.2.1 k = s.heap.size + perm k := fun k _ => by rw [hV]
  have hInj : InjV V := fun i j hi hj hij => by
    rw [hVk i hi, hVk j hj] at hij
    rw [← permI_ok i hi, ← permI_ok j hj, show perm i = perm j by omega]
  have hK : va_K V.1 vwCl (tysV V) s := by
    refine ⟨fun c q hq => by rw [hV]; exact hD c q hq, fun k q hq => ?_⟩
    rw [hV] at hq
    match k, hq with
    | 0, hq => cases hq; exact ⟨hI1, hI2⟩
    | 1, hq => cases hq; exact ⟨hZ1, hZ2⟩
    | 2, hq => cases hq; exact ⟨h41, h42⟩
    | 3, hq => cases hq; exact ⟨h01, h02⟩
    | 4, hq => cases hq; exact ⟨h51, h52⟩
    | k + 5, hq => simp [tysV] at hq
  have hN : ∀ w ∈ nws, va_Nw w s := fun w hw => va_Nw.of (nst_tabs (List.mem_filter.mp hw).2) (hts w (nws_in w hw))
  have hKN : KN V s := ⟨hK, hN, va_AO.of (hts _ ao_4), va_AO.of (hts _ ao_0), va_AO.of (hts _ ao_5)⟩
  obtain ⟨E, hE⟩ : ∃ E : EX, E = ((p, l, e, room_1), (s, m, #[Value.ref b]), (below, meth, c), (103, 5526), (fun q => s.heap.size ≤ q), lw_Z below #[Value.ref b] s) := ⟨_, rfl⟩
  have hOk : OkX V E RL cL_law 4 100 := by
    subst hE
    exact ⟨hx, hb, hml, hown, htb, hN, hK, hInj, fun k hk => by show s.heap.size ≤ V.2.1 k; rw [hVk k hk]; omega, Nat.le_of_ble_eq_true rfl, Nat.le_of_ble_eq_true rfl, Nat.le_of_ble_eq_true rfl, Nat.le_of_ble_eq_true rfl⟩
  have hs : ScrX E b L xs := by
    subst hE
    exact ⟨hX, hbl, Nat.not_le.mpr hbl, hL⟩
  have fin : ∀ (μ : Mem) (L : List (Option Value)), G V E μ 721 L [vi 1] := by
    subst hE
    intro μ L H locs ls hP hS hl
    refine va_forget hS.2.2 ?_
    refine W.widen (k := 600000) (n := 7302250) (Nat.le_of_ble_eq_true rfl) (Nat.le_of_ble_eq_true rfl) ?_
    exact lw_ret hx hb hr hlocks dL_law_721
  have hlp := law_loop hOk hInj (by decide) hs fin L 0 mu0 (by omega) (by decide) im_0 rel_0
  have hgo : GN V E (fun _ => none) s.heap.size 0 0 0 [some (.ref b), none, none, none] [] := law_init hOk hInj (by decide) (by subst hE; exact hKN) (by subst hE; exact Nat.le_of_ble_eq_true rfl) (by subst hE; exact Nat.le_of_ble_eq_true rfl) hVk (by subst hE; rfl) (by subst hE; rfl) hlp
  rw [lg_entry_eq]
  subst hE
  exact hgo s.heap [] _ rfl (fun k e h => by cases h) va_S.rf (LV_entry [Value.ref b] 4 (show 1 ≤ 4 by decide))
