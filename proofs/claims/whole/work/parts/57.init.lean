/-! arrays of references; the digger's constructor -/
section NA
variable {V : VX} {E : EX} {own : String} {cc : ByteArray} {n lvl pc h cs sl : Nat} {C : CM} {L : List (Option Value)} {st : List Value}
set_option maxHeartbeats 1000000 in
theorem n_aast {k t N ci k2 i : Nat} {f : Nat → Option Nat} {r : vw_C} {vs : List Value} (hX : OkX V E own cc n lvl) (d : decode cc pc = .ok (.aastore, 1)) (hC : C k = some (arN V t N f)) (ht : (tysV V)[t]? = some (V.2.2 t, .object r.1)) (hC2 : C k2 = some (.inr (ci, vs))) (hc : vwCl[ci]? = some r) {a : Int} (ha : a = (i : Int)) (hi : i < N) (hN : N ≤ 4096) (hA : E.2.2.2.2.1 (V.2.1 k))
    (kk : GN V E (cup C k (arN V t N (va_up f i (some (V.2.1 k2))))) h cs sl (pc + 1) L st) : GN V E C h cs sl pc L (vr V k2 :: vi a :: vr V k :: st) := by
  intro H locs ls hz hP hS hl
  subst ha
  have hK := hX.2.2.2.2.2.2.1
  have hin := i_in (a := (i : Int)) (n := N) (by omega) (by omega) hN
  have hcl : (Int32.ofInt (i : Int)).toNatClampNeg = i := i_cl ⟨by omega, by omega⟩ (by omega)
  have hlt : (Int32.ofInt (i : Int)).toNatClampNeg < N := by rw [hcl]; exact hi
  have h0 : ¬ Int32.ofInt (i : Int) < 0 := fun q => hin (Or.inl q)
  obtain ⟨hk2, r', hr', cellV, g1, g2, g3, -⟩ := hP k2 _ hC2
  obtain ⟨hk1, hat⟩ := hP k _ hC
  have hcls := (hK.1 ci r hc).2
  obtain ⟨kA, comp, q1, q2, q3, -⟩ := (hK.2 t _ ht).2
  have hcomp : comp = V.1.1 ci := Option.some.inj (q3.symm.trans hcls.1)
  subst hcomp
  obtain ⟨kC, hkC, -⟩ := id hcls.2
  refine W.aast hX.1 hX.2.1 hat (fun q h => by cases h) (fun h => by cases h) q1 q2 rfl hkC ⟨h0, by show _ < (arrV _ _ _).slots.size; rw [arrV_size]; exact hlt⟩ g1 (fun q h => by rw [g3] at h; cases h) (by rw [g2]; exact hkC) (by rw [g2]; exact va_assign hcls) rfl rfl d fun H1 e z oq => ?_
  rw [hcl] at e ⊢
  refine kk H1 _ ls (by rw [z]; exact hz) (hP.upd hX.2.2.2.2.2.2.2.1 oq hk1 ?_) (hS.put z oq hA) hl
  show H1[V.2.1 k]? = some (vp_cell _ _)
  rw [e]
  show some ((vp_cell _ (N, .inr (.inr (.inr (.inr f))))).setSlot i _) = _
  rw [vp_cell_q, vp_cell_q, arrV_store]
  congr 2
  funext q
  by_cases hq : q = i
  · subst hq
    simp [updV, va_up, va_rf]
  · simp [updV, va_up, hq]
end NA
