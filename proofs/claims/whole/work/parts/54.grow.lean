/-! a world that grows: what is known of each cell, as far as it is made -/
abbrev CM : Type := Nat → Option va_E
def HC (V : VX) (C : CM) (H : Heap) : Prop := ∀ (k : Nat) (e : va_E), C k = some e → k < 103 ∧ va_at V.1 vwCl (V.2.1 k, e) H
def cup (C : CM) (k : Nat) (e : va_E) : CM := fun q => if q = k then some e else C q
theorem cup_eq {C : CM} {k : Nat} {e : va_E} : cup C k e k = some e := if_pos rfl
theorem cup_ne {C : CM} {k q : Nat} {e : va_E} (h : q ≠ k) : cup C k e q = C q := if_neg h
theorem HC.new {V : VX} {C : CM} {H H1 : Heap} {h k : Nat} {e : va_E} (hP : HC V C H) (hz : H.size = h) (o1 : ∀ q, q < h → H1[q]? = H[q]?) (hk : k < 103) (hat : va_at V.1 vwCl (V.2.1 k, e) H1) : HC V (cup C k e) H1 := fun q e' hq => by
  by_cases hqk : q = k
  · subst hqk
    rw [cup_eq] at hq
    cases hq
    exact ⟨hk, hat⟩
  · rw [cup_ne hqk] at hq
    obtain ⟨a, b⟩ := hP q e' hq
    have := b.lt
    exact ⟨a, b.kept (o1 _ (by omega))⟩
theorem HC.upd {V : VX} {C : CM} {H H1 : Heap} {k : Nat} {e : va_E} (hI : InjV V) (hP : HC V C H) (oq : ∀ q : Nat, q ≠ V.2.1 k → H1[q]? = H[q]?) (hk : k < 103) (hat : va_at V.1 vwCl (V.2.1 k, e) H1) : HC V (cup C k e) H1 := fun q e' hq => by
  by_cases hqk : q = k
  · subst hqk
    rw [cup_eq] at hq
    cases hq
    exact ⟨hk, hat⟩
  · rw [cup_ne hqk] at hq
    obtain ⟨a, b⟩ := hP q e' hq
    exact ⟨a, b.kept (oq _ (fun z => hqk (hI q k a hk z)))⟩
theorem S_grow {A : Nat → Prop} {H0 H H1 : Heap} {locs : List Loc} {h : Nat} (hS : va_S A H0 H locs) (hz : H.size = h) (z1 : H1.size = h + 1) (o1 : ∀ q, q < h → H1[q]? = H[q]?) : va_S A H0 H1 locs := by
  have h1 := hS.1
  exact ⟨by omega, fun q h2 h3 => (o1 q (by omega)).trans (hS.2.1 q h2 h3), hS.2.2⟩
def GN (V : VX) (E : EX) (C : CM) (h cs sl : Nat) (pc : Nat) (L : List (Option Value)) (st : List Value) : Prop :=
  ∀ (H : Heap) (locs : List Loc) (ls : Array Slot), H.size = h → HC V C H → va_S E.2.2.2.2.1 E.2.1.1.heap H locs → LV ls L →
    W E.1.1 E.1.2.1 E.1.2.2.1 E.1.2.2.2 E.2.1.1 E.2.1.2.1 E.2.1.2.2 E.2.2.1.1 E.2.2.1.2.1 E.2.2.1.2.2 H locs cs sl E.2.2.2.2.2 (F0 E.2.1.2.1 pc ls st)
section NR
variable {V : VX} {E : EX} {own : String} {cc : ByteArray} {n lvl pc h cs sl : Nat} {C : CM} {L : List (Option Value)} {st : List Value}
theorem n_iconst (hX : OkX V E own cc n lvl) {z : Int} (d : decode cc pc = .ok (.iconst z, 1)) (k : GN V E C h cs sl (pc + 1) L (vi z :: st)) : GN V E C h cs sl pc L st := by
  intro H locs ls hz hP hS hl
  exact lv_iconst hX.1 hX.2.1 d rfl (k H locs ls hz hP hS hl)
theorem n_bipush (hX : OkX V E own cc n lvl) {z : Int} (d : decode cc pc = .ok (.bipush z, 2)) (hv : (Int8.ofInt z).toInt32 = Int32.ofInt z) (k : GN V E C h cs sl (pc + 2) L (vi z :: st)) : GN V E C h cs sl pc L st := by
  intro H locs ls hz hP hS hl
  exact lv_bipush hX.1 hX.2.1 d hv (k H locs ls hz hP hS hl)
theorem n_sipush (hX : OkX V E own cc n lvl) {z : Int} (d : decode cc pc = .ok (.sipush z, 3)) (hv : (Int16.ofInt z).toInt32 = Int32.ofInt z) (k : GN V E C h cs sl (pc + 3) L (vi z :: st)) : GN V E C h cs sl pc L st := by
  intro H locs ls hz hP hS hl
  exact lv_sipush hX.1 hX.2.1 d hv (k H locs ls hz hP hS hl)
theorem n_iload_n (hX : OkX V E own cc n lvl) {i : Fin 4} (d : decode cc pc = .ok (.iload_n i, 1)) {a : Int} (hi : L[(i : Nat)]? = some (some (vi a))) (k : GN V E C h cs sl (pc + 1) L (vi a :: st)) : GN V E C h cs sl pc L st := by
  intro H locs ls hz hP hS hl
  exact lv_iload_n hX.1 hX.2.1 d rfl (hl.at hi) (k H locs ls hz hP hS hl)
theorem n_aload_n (hX : OkX V E own cc n lvl) {i : Fin 4} (d : decode cc pc = .ok (.aload_n i, 1)) {a : Nat} (hi : L[(i : Nat)]? = some (some (vr V a))) (k : GN V E C h cs sl (pc + 1) L (vr V a :: st)) : GN V E C h cs sl pc L st := by
  intro H locs ls hz hP hS hl
  exact lv_aload_n hX.1 hX.2.1 d rfl (hl.at hi) (k H locs ls hz hP hS hl)
theorem n_dup (hX : OkX V E own cc n lvl) (d : decode cc pc = .ok (.dup, 1)) {v : Value} (hv : v.category = 1) (k : GN V E C h cs sl (pc + 1) L (v :: v :: st)) : GN V E C h cs sl pc L (v :: st) := by
  intro H locs ls hz hP hS hl
  exact lv_dup hX.1 hX.2.1 d hv (k H locs ls hz hP hS hl)
theorem n_goto (hX : OkX V E own cc n lvl) {off : Int} {tgt : Nat} (d : decode cc pc = .ok (.goto off, 3)) (ht : (pc : Int) + off = (tgt : Int)) (k : GN V E C h cs sl tgt L st) : GN V E C h cs sl pc L st := by
  intro H locs ls hz hP hS hl
  exact lv_goto hX.1 hX.2.1 d ht (k H locs ls hz hP hS hl)
theorem n_icmp_ge (hX : OkX V E own cc n lvl) {off : Int} {tgt : Nat} (d : decode cc pc = .ok (.if_icmp .ge off, 3)) (ht : (pc : Int) + off = (tgt : Int)) {a b : Int} (ha : in32 a) (hb : in32 b) (kt : b ≤ a → GN V E C h cs sl tgt L st) (kf : ¬ b ≤ a → GN V E C h cs sl (pc + 3) L st) : GN V E C h cs sl pc L (vi b :: vi a :: st) := by
  intro H locs ls hz hP hS hl
  exact lv_icmp_ge hX.1 hX.2.1 d ht (fun h => kt ((i_le hb ha).mp h) H locs ls hz hP hS hl) (fun h => kf (fun q => h ((i_le hb ha).mpr q)) H locs ls hz hP hS hl)
theorem n_istore_n (hX : OkX V E own cc n lvl) {i : Fin 4} (d : decode cc pc = .ok (.istore_n i, 1)) {a : Int} (hi : (i : Nat) < L.length) (hc : ∀ j v, L[j]? = some (some v) → j + 1 = (i : Nat) → v.category ≠ 2) (k : GN V E C h cs sl (pc + 1) (L.set i (some (vi a))) st) : GN V E C h cs sl pc L (vi a :: st) := by
  intro H locs ls hz hP hS hl
  exact lv_istore_n hX.1 hX.2.1 d rfl hl hi rfl (fun ls' hl' => k H locs ls' hz hP hS (LV.set hi hl' hc))
theorem n_iinc (hX : OkX V E own cc n lvl) {i : Nat} {z : Int} (d : decode cc pc = .ok (.iinc i z, 3)) {a : Int} (hi : L[i]? = some (some (vi a))) (hc : ∀ j v, L[j]? = some (some v) → j + 1 = i → v.category ≠ 2) (k : GN V E C h cs sl (pc + 3) (L.set i (some (vi (a + z)))) st) : GN V E C h cs sl pc L st := by
  intro H locs ls hz hP hS hl
  have hn : i < L.length := (List.getElem?_eq_some_iff.mp hi).1
  obtain ⟨q, hq⟩ := List.getElem?_of_mem (LAs_mem.mpr hi)
  exact lv_iinc (v := Int32.ofInt (a + z)) hX.1 hX.2.1 d hl hq (by rw [← Int32.ofInt_add]) hn rfl (fun ls' hl' => k H locs ls' hz hP hS (LV.set hn hl' hc))
set_option maxHeartbeats 1000000 in
theorem n_new {k ci N idx : Nat} {Cn : String} {T : u_T} {ty : Nat → FieldType} {fs : List Value} (hX : OkX V E own cc n lvl) (d : decode cc pc = .ok (.new idx, 3)) (hc : vwCl[ci]? = some (Cn, T, N)) (hin : ∀ w ∈ u_ws Cn T N, w ∈ tbl) (hty : ∀ k, k < N → parseFieldDescriptor (T k).2.2.1 = some (ty k))
    (hcl : Cond.classLink own idx Cn ∈ tbl) (hinst : Cond.instantiable Cn N ∈ tbl) (hini : Cond.initialized Cn ∈ tbl) (hfs : ∀ j, j < N → defaultValue (ty j) = vp_V fs j) (hcs : cs + 1 ≤ E.1.2.2.2.cells) (hsl : sl + N ≤ E.1.2.2.2.slots) (hk : k < 103) (hq : V.2.1 k = h)
    (kk : GN V E (cup C k (.inr (ci, fs))) (h + 1) (cs + 1) (sl + N) (pc + 3) L (vr V k :: st)) : GN V E C h cs sl pc L st := by
  intro H locs ls hz hP hS hl
  have hts := hX.2.2.2.2.1
  have hKn := hX.2.2.2.2.2.2.1.1 ci _ hc
  refine W.newcK hX.1 hX.2.1 hX.2.2.2.1 (hts _ hcl) (hts _ hinst) (hts _ hini) rfl d hcs hsl hKn.2.1 hz fun H1 kC hkC e1 z1 o1 => ?_
  have hg := kk H1 locs ls z1 (hP.new hz o1 hk ⟨_, hc, (u_born ty hts hin hKn hkC (by rw [hq]; exact e1) hty).to hfs⟩) (S_grow hS hz z1 o1) hl
  unfold vr at hg
  rw [hq] at hg
  exact hg
theorem arI_at {V : VX} {q N : Nat} {H : Heap} (h : H[q]? = some (arrV (V.2.2 0) N (fun _ => defaultValue .int))) : va_at V.1 vwCl (q, arI V N (fun _ => 0)) H := h
theorem arZ_at {V : VX} {q N : Nat} {H : Heap} (h : H[q]? = some (arrV (V.2.2 1) N (fun _ => defaultValue .boolean))) : va_at V.1 vwCl (q, arZ V N (fun _ => 0)) H := h
set_option maxHeartbeats 1000000 in
theorem n_newI {k N : Nat} {z : Int} (hX : OkX V E own cc n lvl) (d : decode cc pc = .ok (.newarray .int, 2)) (harr : Cond.arrayClass .int ∈ tbl) (hN : z = (N : Int)) (hN4 : N ≤ 4096) (hcs : cs + 1 ≤ E.1.2.2.2.cells) (hsl : sl + N ≤ E.1.2.2.2.slots) (hk : k < 103) (hq : V.2.1 k = h)
    (kk : GN V E (cup C k (arI V N (fun _ => 0))) (h + 1) (cs + 1) (sl + N) (pc + 2) L (vr V k :: st)) : GN V E C h cs sl pc L (vi z :: st) := by
  intro H locs ls hz hP hS hl
  subst hN
  refine va_newaK (atype := .int) hX.1 hX.2.1 (hX.2.2.2.2.1 _ harr) rfl d rfl (fun hlt => ?_) (i_cl ⟨by omega, by omega⟩ (by omega)) ?_ hcs hsl hz fun H1 cA e1 z1 o1 hAr hNm => ?_
  · have := (i_lt (a := (N : Int)) (b := 0) ⟨by omega, by omega⟩ in0).mp hlt
    omega
  · show N * 4 ≤ 536870912
    omega
  have hcA : cA = V.2.2 0 := Option.some.inj (hNm.symm.trans (hX.2.2.2.2.2.2.1.2 0 _ rfl).2)
  subst hcA
  have hg := kk H1 locs ls z1 (hP.new hz o1 hk (arI_at (by rw [hq]; exact e1))) (S_grow hS hz z1 o1) hl
  unfold vr at hg
  rw [hq] at hg
  exact hg
set_option maxHeartbeats 1000000 in
theorem n_newZ {k N : Nat} {z : Int} (hX : OkX V E own cc n lvl) (d : decode cc pc = .ok (.newarray .boolean, 2)) (harr : Cond.arrayClass .boolean ∈ tbl) (hN : z = (N : Int)) (hN4 : N ≤ 4096) (hcs : cs + 1 ≤ E.1.2.2.2.cells) (hsl : sl + N ≤ E.1.2.2.2.slots) (hk : k < 103) (hq : V.2.1 k = h)
    (kk : GN V E (cup C k (arZ V N (fun _ => 0))) (h + 1) (cs + 1) (sl + N) (pc + 2) L (vr V k :: st)) : GN V E C h cs sl pc L (vi z :: st) := by
  intro H locs ls hz hP hS hl
  subst hN
  refine va_newaK (atype := .boolean) hX.1 hX.2.1 (hX.2.2.2.2.1 _ harr) rfl d rfl (fun hlt => ?_) (i_cl ⟨by omega, by omega⟩ (by omega)) ?_ hcs hsl hz fun H1 cA e1 z1 o1 hAr hNm => ?_
  · have := (i_lt (a := (N : Int)) (b := 0) ⟨by omega, by omega⟩ in0).mp hlt
    omega
  · show N * 1 ≤ 536870912
    omega
  have hcA : cA = V.2.2 1 := Option.some.inj (hNm.symm.trans (hX.2.2.2.2.2.2.1.2 1 _ rfl).2)
  subst hcA
  have hg := kk H1 locs ls z1 (hP.new hz o1 hk (arZ_at (by rw [hq]; exact e1))) (S_grow hS hz z1 o1) hl
  unfold vr at hg
  rw [hq] at hg
  exact hg
def arN (V : VX) (t n : Nat) (f : Nat → Option Nat) : va_E := .inl (V.2.2 t, n, .inr (.inr (.inr (.inr f))))
set_option maxHeartbeats 1000000 in
theorem n_newR {k N t idx : Nat} {z : Int} {Cn : String} (hX : OkX V E own cc n lvl) (d : decode cc pc = .ok (.anewarray idx, 3)) (hcl : Cond.classLink own idx Cn ∈ tbl) (hAO : va_AO Cn E.2.1.1) (ht : (tysV V)[t]? = some (V.2.2 t, .object Cn)) (hN : z = (N : Int)) (hN4 : N ≤ 4096) (hcs : cs + 1 ≤ E.1.2.2.2.cells) (hsl : sl + N ≤ E.1.2.2.2.slots) (hk : k < 103) (hq : V.2.1 k = h)
    (kk : GN V E (cup C k (arN V t N (fun _ => none))) (h + 1) (cs + 1) (sl + N) (pc + 3) L (vr V k :: st)) : GN V E C h cs sl pc L (vi z :: st) := by
  intro H locs ls hz hP hS hl
  subst hN
  have hcl0 : (Int32.ofInt (N : Int)).toNatClampNeg = N := i_cl ⟨by omega, by omega⟩ (by omega)
  refine W.anew hX.1 hX.2.1 hX.2.2.2.1 (hX.2.2.2.2.1 _ hcl) (va_AO.use hAO) rfl d rfl (fun hlt => ?_) (by rw [hcl0]; omega) hcs (by rw [hcl0]; exact hsl) fun cA kA comp f1 f2 f3 f4 => ?_
  · have := (i_lt (a := (N : Int)) (b := 0) ⟨by omega, by omega⟩ in0).mp hlt
    omega
  rw [hcl0]
  obtain ⟨kA', comp', q1, q2, q3, q4⟩ := (hX.2.2.2.2.2.2.1.2 t _ ht).2
  have hcA : cA = V.2.2 t := Option.some.inj (f1.symm.trans q4)
  subst hcA
  generalize hH1 : H.push ({ cls := V.2.2 t, slots := Array.replicate N .null, vm := .none } : Cell) = H1
  have z1 : H1.size = h + 1 := by rw [← hH1, Array.size_push, hz]
  have e1 : H1[H.size]? = some (arrV (V.2.2 t) N (fun _ => .null)) := by rw [← hH1, Array.getElem?_push_size, ← arrV_new]
  have o1 : ∀ q : Nat, q < h → H1[q]? = H[q]? := fun q hq => by rw [← hH1, Array.getElem?_push, if_neg (by omega)]
  have hg := kk H1 locs ls z1 (hP.new hz o1 hk (by
    show H1[V.2.1 k]? = some (vp_cell _ _)
    rw [vp_cell_q, hq, ← hz]
    exact e1)) (S_grow hS hz z1 o1) hl
  unfold vr at hg
  rw [hq, ← hz] at hg
  exact hg
set_option maxHeartbeats 1000000 in
theorem n_put {k ci N j idx : Nat} {Cn : String} {T : u_T} {ty0 : Nat → FieldType} {fs : List Value} {ty : FieldType} {v : Value} (hX : OkX V E own cc n lvl) (d : decode cc pc = .ok (.putfield idx, 3)) (hC : C k = some (.inr (ci, fs))) (hc : vwCl[ci]? = some (Cn, T, N)) (hin : ∀ w ∈ u_ws Cn T N, w ∈ tbl) (hty : ∀ k, k < N → parseFieldDescriptor (T k).2.2.1 = some (ty0 k)) (hnm : ∀ a, a < N → ∀ b, b < N → a ≠ b → (T a).2.1 ≠ (T b).2.1)
    (hj : j < N) (hlink : Cond.fieldLink own idx (T j).1 (T j).2.1 (T j).2.2.1 ∈ tbl) (hfin : (T j).2.2.2 = false) (hd : parseFieldDescriptor (T j).2.2.1 = some ty) (hn : narrow ty v = v) (hfit : fits ty v = true) (hl0 : j < fs.length) (hA : E.2.2.2.2.1 (V.2.1 k))
    (kk : GN V E (cup C k (.inr (ci, fs.set j v))) h cs sl (pc + 3) L st) : GN V E C h cs sl pc L (v :: vr V k :: st) := by
  intro H locs ls hz hP hS hl
  have hts := hX.2.2.2.2.1
  have hK := hX.2.2.2.2.2.2.1
  have hap := va_apart (own := own) hts hin ty0 hty hnm hK hc
  obtain ⟨hk103, r, h1, cell, q1, q2, q3, q4⟩ := hP k _ hC
  have hr : r = (Cn, T, N) := Option.some.inj (h1.symm.trans hc)
  subst hr
  obtain ⟨hSl, hfc, kC, hkC, hkind⟩ := hK.1 ci _ hc
  obtain ⟨cf, kf, fi, f, hi, hsl⟩ := hSl j hj
  have hlay := hts _ (hin _ (u_in_lay hj))
  unfold u_lay at hlay
  rw [if_neg (by rw [hfin]; decide)] at hlay
  have hst := (u_facts hfc hkC (u_lays hts hin hj) hi).1
  have h6 := u_store hfc hkC hkind hlay hi hd hn hfit
  refine W.putK hX.1 hX.2.1 (f := f) ⟨hX.2.2.2.1, hts _ hlink, ⟨_, _, _, hi⟩, hst⟩ (by rw [q2]; exact h6) q1 q3 (by rw [hsl]; exact k2_hasslot (q4 j hj)) rfl rfl d fun H' e1 e2 e3 => ?_
  rw [hsl] at e1 ⊢
  exact kk H' _ ls (by rw [e2]; exact hz) (hP.upd hX.2.2.2.2.2.2.2.1 e3 hk103 ⟨_, hc, t_OB.to (V := updV (vp_V fs) j v) ⟨_, e1, q2, q3, t_set q4 hap hj v⟩ (fun i _ => vp_updV_set hl0 v i)⟩) (hS.put e2 e3 hA) hl
set_option maxHeartbeats 1000000 in
theorem n_putF {k ci N j idx : Nat} {Cn : String} {T : u_T} {ty0 : Nat → FieldType} {fs : List Value} {ty : FieldType} {v : Value} (hX : OkX V E own cc n lvl) (d : decode cc pc = .ok (.putfield idx, 3)) (hC : C k = some (.inr (ci, fs))) (hc : vwCl[ci]? = some (Cn, T, N)) (hin : ∀ w ∈ u_ws Cn T N, w ∈ tbl) (hty : ∀ k, k < N → parseFieldDescriptor (T k).2.2.1 = some (ty0 k)) (hnm : ∀ a, a < N → ∀ b, b < N → a ≠ b → (T a).2.1 ≠ (T b).2.1)
    (hj : j < N) (hlink : Cond.fieldLink own idx (T j).1 (T j).2.1 (T j).2.2.1 ∈ tbl) (hfin : (T j).2.2.2 = true) (hin2 : E.2.2.1.2.1.name = "<init>") (hdecl : (T j).1 = own) (hd : parseFieldDescriptor (T j).2.2.1 = some ty) (hn : narrow ty v = v) (hfit : fits ty v = true) (hl0 : j < fs.length) (hA : E.2.2.2.2.1 (V.2.1 k))
    (kk : GN V E (cup C k (.inr (ci, fs.set j v))) h cs sl (pc + 3) L st) : GN V E C h cs sl pc L (v :: vr V k :: st) := by
  intro H locs ls hz hP hS hl
  have hts := hX.2.2.2.2.1
  have hK := hX.2.2.2.2.2.2.1
  have hap := va_apart (own := own) hts hin ty0 hty hnm hK hc
  obtain ⟨hk103, r, h1, cell, q1, q2, q3, q4⟩ := hP k _ hC
  have hr : r = (Cn, T, N) := Option.some.inj (h1.symm.trans hc)
  subst hr
  obtain ⟨hSl, hfc, kC, hkC, hkind⟩ := hK.1 ci _ hc
  obtain ⟨cf, kf, fi, f, hi, hsl⟩ := hSl j hj
  have hlay := hts _ (hin _ (u_in_lay hj))
  unfold u_lay at hlay
  rw [if_pos hfin] at hlay
  have hst := (u_facts hfc hkC (u_lays hts hin hj) hi).1
  have hcf : E.2.1.2.1.cls = cf := by
    obtain ⟨_, _, c', _, _, _, -, -, hf', -, -, -, hown2, -⟩ := Cond.laysFinal_spec hlay
    have e1 : c' = cf := by have := hi.symm.trans hf'; simp at this; exact this.1.symm
    rw [hdecl] at hown2
    rw [← e1]; exact Option.some.inj (hX.2.2.2.1.symm.trans hown2)
  have h6 := u_fits hfc hkC hkind (Or.inr hlay) hi hd hn hfit
  refine W.putFinK hX.1 hX.2.1 hX.2.2.2.1 (hts _ hlink) hi hst hcf hin2 (by rw [q2]; exact h6) q1 q3 (by rw [hsl]; exact k2_hasslot (q4 j hj)) rfl rfl d fun H' e1 e2 e3 => ?_
  rw [hsl] at e1 ⊢
  exact kk H' _ ls (by rw [e2]; exact hz) (hP.upd hX.2.2.2.2.2.2.2.1 e3 hk103 ⟨_, hc, t_OB.to (V := updV (vp_V fs) j v) ⟨_, e1, q2, q3, t_set q4 hap hj v⟩ (fun i _ => vp_updV_set hl0 v i)⟩) (hS.put e2 e3 hA) hl
end NR
