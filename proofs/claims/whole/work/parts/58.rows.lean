/-! fields of a growing world, their new lists and cells given in a normal form -/
section NF2
variable {V : VX} {E : EX} {own : String} {cc : ByteArray} {n lvl pc h cs sl : Nat} {C C' : CM} {L : List (Option Value)} {st : List Value}
theorem n_put2 {k ci N j idx : Nat} {Cn : String} {T : u_T} {ty0 : Nat → FieldType} {fs : List Value} {ty : FieldType} {v : Value} (hX : OkX V E own cc n lvl) (d : decode cc pc = .ok (.putfield idx, 3)) (hC : C k = some (.inr (ci, fs))) (hc : vwCl[ci]? = some (Cn, T, N)) (hin : ∀ w ∈ u_ws Cn T N, w ∈ tbl) (hty : ∀ k, k < N → parseFieldDescriptor (T k).2.2.1 = some (ty0 k)) (hnm : ∀ a, a < N → ∀ b, b < N → a ≠ b → (T a).2.1 ≠ (T b).2.1)
    (hj : j < N) (hlink : Cond.fieldLink own idx (T j).1 (T j).2.1 (T j).2.2.1 ∈ tbl) (hfin : (T j).2.2.2 = false) (hd : parseFieldDescriptor (T j).2.2.1 = some ty) (hn : narrow ty v = v) (hfit : fits ty v = true) (hl0 : j < fs.length) (hA : E.2.2.2.2.1 (V.2.1 k)) (fs' : List Value) (hfs : fs.set j v = fs') (hC' : cup C k (.inr (ci, fs')) = C')
    (kk : GN V E C' h cs sl (pc + 3) L st) : GN V E C h cs sl pc L (v :: vr V k :: st) := by
  subst hfs
  subst hC'
  exact n_put hX d hC hc hin hty hnm hj hlink hfin hd hn hfit hl0 hA kk
theorem n_putF2 {k ci N j idx : Nat} {Cn : String} {T : u_T} {ty0 : Nat → FieldType} {fs : List Value} {ty : FieldType} {v : Value} (hX : OkX V E own cc n lvl) (d : decode cc pc = .ok (.putfield idx, 3)) (hC : C k = some (.inr (ci, fs))) (hc : vwCl[ci]? = some (Cn, T, N)) (hin : ∀ w ∈ u_ws Cn T N, w ∈ tbl) (hty : ∀ k, k < N → parseFieldDescriptor (T k).2.2.1 = some (ty0 k)) (hnm : ∀ a, a < N → ∀ b, b < N → a ≠ b → (T a).2.1 ≠ (T b).2.1)
    (hj : j < N) (hlink : Cond.fieldLink own idx (T j).1 (T j).2.1 (T j).2.2.1 ∈ tbl) (hfin : (T j).2.2.2 = true) (hin2 : E.2.2.1.2.1.name = "<init>") (hdecl : (T j).1 = own) (hd : parseFieldDescriptor (T j).2.2.1 = some ty) (hn : narrow ty v = v) (hfit : fits ty v = true) (hl0 : j < fs.length) (hA : E.2.2.2.2.1 (V.2.1 k)) (fs' : List Value) (hfs : fs.set j v = fs') (hC' : cup C k (.inr (ci, fs')) = C')
    (kk : GN V E C' h cs sl (pc + 3) L st) : GN V E C h cs sl pc L (v :: vr V k :: st) := by
  subst hfs
  subst hC'
  exact n_putF hX d hC hc hin hty hnm hj hlink hfin hin2 hdecl hd hn hfit hl0 hA kk
end NF2
