/-! constructors: their contract, and the calls -/
def KN (V : VX) (U : State) : Prop := va_K V.1 vwCl (tysV V) U ∧ (∀ w ∈ nws, va_Nw w U) ∧ va_AO RX4 U ∧ va_AO RX0 U ∧ va_AO RX5 U
def PN (V : VX) (C : CM) (h : Nat) (U : State) : Prop := U.heap.size = h ∧ HC V C U.heap ∧ KN V U
def QN (V : VX) (C : CM) (h : Nat) : Array Value → State → Outcome → State → Prop := fun _ st oc t => (oc = .returned none ∧ HC V C t.heap ∧ t.heap.size = h) ∧ va_F (AadV V) st t
def rmN (lvl mc ms : Nat) : Room := { frames := lvl, cells := mc, slots := ms, locals := 40 * lvl }
def CtN (l : Launch) (y : MethodName) (cc : ByteArray) (n lvl : Nat) (V : VX) (k : Nat) (C : CM) (h : Nat) (C' : CM) (mc ms : Nat) : Prop :=
  Met l y (Cond.code y cc n none :: tbl) (rmN lvl mc ms) (va_Pc [vr V k] (PN V C h)) (QN V C' (h + mc)) mc ms (AadV V)
def RtN (V : VX) (E : EX) (C : CM) (h mc ms : Nat) : Prop :=
  E.2.2.1.2.1.sig.returnType = none ∧ E.2.2.1.2.1.locks = false ∧ E.2.2.2.2.1 = AadV V ∧ E.2.2.2.2.2 = MQ E.2.2.1.1 (QN V C h) E.2.1.2.2 E.2.1.1 mc ms (AadV V)
theorem KN_moved {V : VX} {u U : State} (hvm : u.vm.Alike U.vm) (hn : ∀ w ∈ nws, va_Nw w U) (h : KN V u) : KN V U := ⟨va_K.moved hvm h.1, hn, h.2.2.1.moved hvm, h.2.2.2.1.moved hvm, h.2.2.2.2.moved hvm⟩
theorem PN_blind (as : List Value) (V : VX) (C : CM) (h : Nat) : FrameBlind (va_Pc as (PN V C h)) := fun a U g mk hh => ⟨hh.1, hh.2.1, hh.2.2.1, KN_moved (u := U) (U := U.calling g mk a) (Vm.Alike.refl U.vm) (fun w hw => va_Nw.same (u := U) (U := U.calling g mk a) (by
  have := (List.mem_filter.mp hw).2
  cases w <;> first | rfl | (exact absurd (show false = true from this) (by decide))) rfl (hh.2.2.2.2.1 w hw)) hh.2.2.2⟩
set_option maxHeartbeats 2000000 in
theorem CtN_of {l : Launch} {y : MethodName} {cc : ByteArray} {n lvl : Nat} {V : VX} {k : Nat} {C : CM} {h : Nat} {C' : CM} {mc ms : Nat} (hy : plainName y.cls = true) (hI : InjV V) (hn : 1 ≤ n)
    (body : ∀ E : EX, E.1.2.1 = l → OkX V E y.cls cc n lvl → RtN V E C' (h + mc) mc ms → E.2.2.1.2.1.name = y.name → KN V E.2.1.1 → E.1.2.2.2.cells = mc → E.1.2.2.2.slots = ms → GN V E C h 0 0 0 (entN n [vr V k]) []) : CtN l y cc n lvl V k C h C' mc ms := by
  refine Met.ofW (cc := cc) (maxL := n) (ret := none) hy rfl ?_
  intro p e s m args below meth c s₁ B hml hv
  obtain ⟨rfl, hz, hP, hK⟩ := hv
  have hts := atoms_spec (ws := Cond.code y cc n none :: tbl) B.pre
  have hown : s.vm.findClass y.cls = some m.cls := findClass_of_methodNamed B.named
  rw [lg_entry_eq]
  have hg := body ((p, l, e, rmN lvl mc ms), (s, m, [vr V k].toArray), (below, meth, c), (0, 0), AadV V, MQ below (QN V C' (h + mc)) [vr V k].toArray s mc ms (AadV V)) rfl
    ⟨B.exec, B.bytes, hml, hown, fun w hw => hts w (List.mem_cons_of_mem _ hw), hK.2.1, hK.1, hI, fun k hk => ⟨k, hk, rfl⟩, Nat.le_refl _, Nat.le_refl _, Nat.zero_le _, Nat.zero_le _⟩
    ⟨B.returns, B.notSynchronized, rfl, rfl⟩ (name_of_methodNamed B.named B.method).1 hK rfl rfl
  exact hg s.heap [] _ hz hP va_S.rf (LV_entry [vr V k] n (show (entL [vr V k]).length ≤ n from hn))
section NC
variable {V : VX} {E : EX} {own : String} {cc : ByteArray} {n lvl pc h cs sl : Nat} {C : CM} {L : List (Option Value)} {st : List Value}
theorem n_vret {mc ms : Nat} (hX : OkX V E own cc n lvl) (hR : RtN V E C h mc ms) (d : decode cc pc = .ok (.return_, 1)) : GN V E C h mc ms pc L [] := by
  intro H locs ls hz hP hS hl
  obtain ⟨h1, h2, h3, h4⟩ := hR
  rw [h4]
  rw [h3] at hS
  exact W.vret hX.1 hX.2.1 h1 (fun t ht hW => ⟨⟨rfl, by rw [ht]; exact hP, by rw [ht]; exact hz⟩, hS.F ht⟩) hS.2.2 d h2
theorem HC.one {k : Nat} {e : va_E} {H : Heap} (hP : HC V C H) (hC : C k = some e) : va_P V.1 vwCl [(V.2.1 k, e)] H := fun i q hq => by
  match i, hq with
  | 0, hq =>
    have : (V.2.1 k, e) = q := Option.some.inj hq
    rw [← this]
    exact (hP k e hC).2
theorem n_get {k ci N j idx : Nat} {Cn : String} {T : u_T} {fs : List Value} {v : Value} (hX : OkX V E own cc n lvl) (d : decode cc pc = .ok (.getfield idx, 3)) (hC : C k = some (.inr (ci, fs))) (hc : vwCl[ci]? = some (Cn, T, N)) (hin : ∀ w ∈ u_ws Cn T N, w ∈ tbl) (hj : j < N) (hlink : Cond.fieldLink own idx (T j).1 (T j).2.1 (T j).2.2.1 ∈ tbl) (hv : fs[j]? = some v)
    (kk : GN V E C h cs sl (pc + 3) L (v :: st)) : GN V E C h cs sl pc L (vr V k :: st) := by
  intro H locs ls hz hP hS hl
  exact va_get (D := V.1) (ci := ci) (v := v) (C := Cn) (T := T) (N := N) (fs := fs) hX.1 hX.2.1 hX.2.2.2.2.1 hin hX.2.2.2.1 hX.2.2.2.2.2.2.1 (hP.one hC) 0 rfl hc j hj (hX.2.2.2.2.1 _ hlink) (fun _ h9 => h9) hv d (kk H locs ls hz hP hS hl)
theorem n_alen {k t N : Nat} {ty : FieldType} {f : Nat → Option Nat} (hX : OkX V E own cc n lvl) (d : decode cc pc = .ok (.arraylength, 1)) (hC : C k = some (arN V t N f)) (ht : (tysV V)[t]? = some (V.2.2 t, ty)) (kk : GN V E C h cs sl (pc + 1) L (vi (N : Int) :: st)) : GN V E C h cs sl pc L (vr V k :: st) := by
  intro H locs ls hz hP hS hl
  exact va_alen hX.1 hX.2.1 hX.2.2.2.2.2.2.1 (hP.one hC) 0 t rfl ht (v := Int32.ofInt (N : Int)) rfl d (kk H locs ls hz hP hS hl)
theorem n_objInit {k idx : Nat} (hX : OkX V E own cc n lvl) (hLn : L.length = n) (d : decode cc pc = .ok (.invokespecial idx, 3)) (hl1 : Cond.methodLink own idx Lib.objectInit ∈ tbl) (hl2 : Cond.instanceMethod Lib.objectInit ∈ tbl) (hl3 : Cond.code Lib.objectInit ⟨#[0xb1]⟩ 1 none ∈ tbl) (h1 : 1 ≤ lvl) (hcat : (st.map fun v => v.category).sum ≤ 8) (kk : GN V E C h cs sl (pc + 3) L st) : GN V E C h cs sl pc L (vr V k :: st) := by
  intro H locs ls hz hP hS hl
  have hts := hX.2.2.2.2.1
  have hfr : lvl ≤ E.1.2.2.2.frames := hX.2.2.2.2.2.2.2.2.2.1
  have hlo : 40 * lvl ≤ E.1.2.2.2.locals := hX.2.2.2.2.2.2.2.2.2.2.1
  exact W.objInit hX.1 hX.2.1 hX.2.2.2.1 (hts _ hl1) (hts _ hl2) (hts _ hl3) rfl (by show ls.size = _; rw [LV.size hl, hLn, hX.2.2.1]) rfl d (by omega) (by show 2 * 0 + _ + 12 ≤ _; omega) (kk H locs ls hz hP hS hl)
theorem n_after {p : Program} {l : Launch} {e : Env} {R : Room} {s : State} {m : MethodId} {args : Array Value} {below : List Frame} {meth : Method} {c : Code} {H : Heap} {locs : List Loc} {Q : State → Prop} {ls : Array Slot} {rest st0 : List Value} {a : Array Value} {A0 : Nat → Prop} {H0 : Heap} {h' mc ms : Nat} {C' : CM}
    (hr : va_Run p l e R s m args below meth c H locs cs sl mc ms (F0 m pc ls st0) rest (QN V C' h' a) (AadV V)) (hS : va_S A0 H0 H locs) (hA : ∀ q, AadV V q → A0 q)
    (kk : ∀ (H1 : Heap) (locs1 : List Loc), H1.size = h' → HC V C' H1 → va_S A0 H0 H1 locs1 → W p l e R s m args below meth c H1 locs1 (cs + mc) (sl + ms) Q (F0 m (pc + 3) ls rest)) : W p l e R s m args below meth c H locs cs sl Q (F0 m pc ls st0) := by
  intro T hT X
  obtain ⟨v, st₀, t, T', L, h0, X', hL, e1, e2, ⟨⟨hv, hPw, hzw⟩, hz, hk⟩, st⟩ := hr T hT X
  cases hv
  rw [h0] at hz hk
  obtain ⟨t2, a1, b1⟩ := kk T'.heap (locs ++ L) (by rw [e1]; exact hzw) (by rw [e1]; exact hPw)
    ⟨Nat.le_trans hS.1 (by rw [e1]; exact hz), fun q h1 h2 => by rw [e1, hk q (Nat.lt_of_lt_of_le h1 hS.1) (fun z => h2 (hA q z))]; exact hS.2.1 q h1 h2, fun q hq => by
      rcases List.mem_append.mp hq with h | h
      · exact hS.2.2 q h
      · exact hA _ (hL q h)⟩ T' rfl X'
  exact ⟨t2, st t2 a1, b1⟩
set_option maxHeartbeats 2000000 in
theorem n_initN {y : MethodName} {host : String} {cc' : ByteArray} {n' lvl' idx k mc ms : Nat} {C' : CM} (hX : OkX V E own cc n lvl) (hKN : KN V E.2.1.1) (hl : Cond.methodLinkNest own idx y host ∈ nws) (hin : Cond.instanceMethod y ∈ tbl) (hini : Cond.initialized y.cls ∈ tbl) (hcode : Cond.code y cc' n' none ∈ tbl) (hname : y.name = "<init>") (hy : y.cls ≠ "java/lang/invoke/MethodHandle" ∧ y.cls ≠ "java/lang/invoke/VarHandle" ∧ (parseMethodDescriptor y.desc).map (fun d => d.parameters.length) = some 0)
    (d : decode cc pc = .ok (.invokespecial idx, 3)) (hC : CtN E.1.2.1 y cc' n' lvl' V k C h C' mc ms) (hlv : lvl' < lvl) (hn' : n' ≤ 21) (hLn : L.length = n) (hcat : (st.map fun v => v.category).sum ≤ 8) (hcs : cs + mc ≤ E.1.2.2.2.cells) (hsl : sl + ms ≤ E.1.2.2.2.slots)
    (kk : GN V E C' (h + mc) (cs + mc) (sl + ms) (pc + 3) L st) : GN V E C h cs sl pc L (vr V k :: st) := by
  intro H locs ls hz hP hS hl'
  have hts := hX.2.2.2.2.1
  have hfr : lvl ≤ E.1.2.2.2.frames := hX.2.2.2.2.2.2.2.2.2.1
  have hlo : 40 * lvl ≤ E.1.2.2.2.locals := hX.2.2.2.2.2.2.2.2.2.2.1
  exact n_after (hr := va_runIN (As := []) (rest := st) ⟨hX.1, hX.2.1, hX.2.2.1, hX.2.2.2.1, hts⟩ hC ⟨va_cnB 0 hts (tbl_code hcode) rfl rfl rfl (hKN.2.1 _ hl) (hts _ hini) hy ⟨by show lvl' + 1 ≤ _; omega, by show 8 + (n' + 11) + 40 * lvl' ≤ _; omega⟩, hname, hts _ hin⟩
    ⟨PN_blind _ V C h, fun U hU hW => ⟨rfl, by rw [hU]; exact hz, by rw [hU]; exact hP, KN_moved hW.alike (nws_warm hW hKN.2.1) hKN⟩⟩ rfl rfl (by show ls.size = _; rw [LV.size hl']; exact hLn) rfl (by show 2 * 0 + _ ≤ 8; omega) d ⟨hcs, hsl⟩) hS (AadV_in hX.2.2.2.2.2.2.2.2.1) (fun H1 locs1 hz1 hP1 hS1 => kk H1 locs1 ls hz1 hP1 hS1 hl')
set_option maxHeartbeats 2000000 in
theorem n_init {y : MethodName} {cc' : ByteArray} {n' lvl' idx k mc ms : Nat} {C' : CM} (hX : OkX V E own cc n lvl) (hKN : KN V E.2.1.1) (hl : Cond.methodLink own idx y ∈ tbl) (hin : Cond.instanceMethod y ∈ tbl) (hini : Cond.initialized y.cls ∈ tbl) (hcode : Cond.code y cc' n' none ∈ tbl) (hname : y.name = "<init>") (hy : y.cls ≠ "java/lang/invoke/MethodHandle" ∧ y.cls ≠ "java/lang/invoke/VarHandle" ∧ (parseMethodDescriptor y.desc).map (fun d => d.parameters.length) = some 0)
    (d : decode cc pc = .ok (.invokespecial idx, 3)) (hC : CtN E.1.2.1 y cc' n' lvl' V k C h C' mc ms) (hlv : lvl' < lvl) (hn' : n' ≤ 21) (hLn : L.length = n) (hcat : (st.map fun v => v.category).sum ≤ 8) (hcs : cs + mc ≤ E.1.2.2.2.cells) (hsl : sl + ms ≤ E.1.2.2.2.slots)
    (kk : GN V E C' (h + mc) (cs + mc) (sl + ms) (pc + 3) L st) : GN V E C h cs sl pc L (vr V k :: st) := by
  intro H locs ls hz hP hS hl'
  have hts := hX.2.2.2.2.1
  have hfr : lvl ≤ E.1.2.2.2.frames := hX.2.2.2.2.2.2.2.2.2.1
  have hlo : 40 * lvl ≤ E.1.2.2.2.locals := hX.2.2.2.2.2.2.2.2.2.2.1
  exact n_after (hr := va_runI (As := []) (rest := st) ⟨hX.1, hX.2.1, hX.2.2.1, hX.2.2.2.1, hts⟩ hC ⟨callB_of 0 hts (tbl_code hcode) rfl rfl rfl (hts _ hini) (hts _ hl) hy ⟨by show lvl' + 1 ≤ _; omega, by show 8 + (n' + 11) + 40 * lvl' ≤ _; omega⟩, hname, hts _ hin⟩
    ⟨PN_blind _ V C h, fun U hU hW => ⟨rfl, by rw [hU]; exact hz, by rw [hU]; exact hP, KN_moved hW.alike (nws_warm hW hKN.2.1) hKN⟩⟩ rfl rfl (by show ls.size = _; rw [LV.size hl']; exact hLn) rfl (by show 2 * 0 + _ ≤ 8; omega) d ⟨hcs, hsl⟩) hS (AadV_in hX.2.2.2.2.2.2.2.2.1) (fun H1 locs1 hz1 hP1 hS1 => kk H1 locs1 ls hz1 hP1 hS1 hl')
end NC
