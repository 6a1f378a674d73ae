/-! arrays of references; the digger's constructor -/
section NA
variable {V : VX} {E : EX} {own : String} {cc : ByteArray} {n lvl pc h cs sl : Nat} {C : CM} {L : List (Option Value)} {st : List Value}
set_option maxHeartbeats 1000000 in
theorem n_aast {k t N ci k2 i : Nat} {f : Nat → Option Nat} {r : vw_C} {vs : List Value} (hX : OkX V E own cc n lvl) (d : decode cc pc = .ok (.aastore, 1)) (hC : C k = some (arN V t N f)) (ht : (tysV V)[t]? = some (V.2.2 t, .object r.1)) (hC2 : C k2 = some (.inr (ci, vs))) (hc : vwCl[ci]? = some r) {a : Int} (ha : a = (i : Int)) (hi : i < N) (hN : N ≤ 4096) (hA : E.2.2.2.2.1 (V.2.1 k))
    (kk : GN V E (cup C k (arN V t N (va_up f i (some (V.2.1 k2))))) h cs sl (pc + 1) L st) : GN V E C h cs sl pc L (vr V k2 :: vi a :: vr V k :: st) := by
  intro H locs ls hz hP hS hl
  subst ha
  have hK := hX.2.2.2.2.2.2.1
  have hin := i_in (a := (i : Int)) (n := N) (by omega) (by omega) hN
  have hcl : (Int32.ofInt (i : Int)).toNatClampNeg = i := i_cl ⟨by omega, by omega⟩ (by omega)
  have hlt : (Int32.ofInt (i : Int)).toNatClampNeg < N := by rw [hcl]; exact hi
  have h0 : ¬ Int32.ofInt (i : Int) < 0 := fun q => hin (Or.inl q)
  obtain ⟨hk2, r', hr', cellV, g1, g2, g3, -⟩ := hP k2 _ hC2
  obtain ⟨hk1, hat⟩ := hP k _ hC
  have hcls := (hK.1 ci r hc).2
  obtain ⟨kA, comp, q1, q2, q3, -⟩ := (hK.2 t _ ht).2
  have hcomp : comp = V.1.1 ci := Option.some.inj (q3.symm.trans hcls.1)
  subst hcomp
  obtain ⟨kC, hkC, -⟩ := id hcls.2
  refine W.aast hX.1 hX.2.1 hat (fun q h => by cases h) (fun h => by cases h) q1 q2 rfl hkC ⟨h0, by show _ < (arrV _ _ _).slots.size; rw [arrV_size]; exact hlt⟩ g1 (fun q h => by rw [g3] at h; cases h) (by rw [g2]; exact hkC) (by rw [g2]; exact va_assign hcls) rfl rfl d fun H1 e z oq => ?_
  rw [hcl] at e ⊢
  refine kk H1 _ ls (by rw [z]; exact hz) (hP.upd hX.2.2.2.2.2.2.2.1 oq hk1 ?_) (hS.put z oq hA) hl
  show H1[V.2.1 k]? = some (vp_cell _ _)
  rw [e]
  show some ((vp_cell _ (N, .inr (.inr (.inr (.inr f))))).setSlot i _) = _
  rw [vp_cell_q, vp_cell_q, arrV_store]
  congr 2
  funext q
  by_cases hq : q = i
  · subst hq
    simp [updV, va_up, va_rf]
  · simp [updV, va_up, hq]
end NA
theorem ck_at0 {V : VX} {a : Nat} {x : Option Value} : ∀ (j : Nat) (v : Value), [some (vr V a), x][j]? = some (some v) → j + 1 = 1 → v.category ≠ 2 := fun j v hh e => by
  obtain rfl : j = 0 := by omega
  have : vr V a = v := Option.some.inj (Option.some.inj hh)
  rw [← this, vr_cat]
  decide
def DGc (V : VX) (C : CM) (i : Nat) : CM := fun q =>
  if q = 72 then some (.inr (1, [vr V 73, vr V 74, vr V 75, vi 0])) else if q = 73 then some (arN V 4 5 (fun j => if j < i then some (V.2.1 (53 + j)) else none)) else if q = 74 then some (arI V 40 (fun _ => 0)) else if q = 75 then some (arI V 6 (fun _ => 0)) else
  if 53 ≤ q ∧ q < 53 + i then some (.inr (5, [vr V (q + 5), vi 0])) else if 58 ≤ q ∧ q < 58 + i then some (arI V 4 (fun _ => 0)) else C q
theorem n_eq {V : VX} {E : EX} {C C' : CM} {h cs sl pc h' cs' sl' : Nat} {L : List (Option Value)} {st : List Value} (hC : C = C') (hh : h = h') (hc : cs = cs') (hs : sl = sl') (k : GN V E C' h' cs' sl' pc L st) : GN V E C h cs sl pc L st := by
  subst hC; subst hh; subst hc; subst hs; exact k
set_option maxHeartbeats 4000000 in
theorem i_digger {lnch : Launch} {V : VX} (hI : InjV V) {h : Nat} {C : CM} (hC : C 72 = some (.inr (1, blkF1))) (h73 : V.2.1 73 = h) (h74 : V.2.1 74 = h + 1) (h75 : V.2.1 75 = h + 2) (hp : ∀ i, i < 5 → V.2.1 (53 + i) = h + 3 + 2 * i ∧ V.2.1 (53 + i + 5) = h + 3 + 2 * i + 1) : CtN lnch yX1_init cX1_init 2 2 V 72 C h (DGc V C 5) 13 81 := by
  refine CtN_of (by decide) hI (by decide) (fun E hE hX hR hnm hKN hcl hsl => ?_)
  have hX : OkX V E RX1 cX1_init 2 2 := hX
  show GN V E C h 0 0 0 [some (vr V 72), none] []
  have loop : ∀ (d i : Nat), i + d = 5 → GN V E (DGc V C i) (h + 3 + 2 * i) (3 + 2 * i) (51 + 6 * i) 30 [some (vr V 72), some (vi (i : Int))] [] := by
    intro d
    induction d with
    | zero =>
      intro i hi
      obtain rfl : i = 5 := by omega
      have hd72 : DGc V C 5 72 = some (.inr (1, [vr V 73, vr V 74, vr V 75, vi 0])) := rfl
      have hd73 : DGc V C 5 73 = some (arN V 4 5 (fun j => if j < 5 then some (V.2.1 (53 + j)) else none)) := rfl
      refine n_iload_n hX dX1_init_30 rfl ?_
      refine n_aload_n hX dX1_init_31 rfl ?_
      refine n_get (ci := 1) (j := 0) (N := 4) (T := TX1) hX dX1_init_32 (by repeat first | exact cup_eq | assumption | rw [cup_ne (by omega)]) rfl inX1 (by decide) tw_91 rfl ?_
      refine n_alen hX dX1_init_35 hd73 rfl ?_
      refine n_icmp_ge (tgt := 58) hX dX1_init_36 (by decide) ⟨by decide, by decide⟩ ⟨by decide, by decide⟩ (fun _ => ?_) (fun hc => absurd hc (by decide))
      exact n_vret hX hR dX1_init_58
    | succ d ih =>
      intro i hi
      have hd72 : DGc V C i 72 = some (.inr (1, [vr V 73, vr V 74, vr V 75, vi 0])) := rfl
      have hd73 : DGc V C i 73 = some (arN V 4 5 (fun j => if j < i then some (V.2.1 (53 + j)) else none)) := rfl
      obtain ⟨hp1, hp2⟩ := hp i (by omega)
      refine n_iload_n hX dX1_init_30 rfl ?_
      refine n_aload_n hX dX1_init_31 rfl ?_
      refine n_get (ci := 1) (j := 0) (N := 4) (T := TX1) hX dX1_init_32 (by repeat first | exact cup_eq | assumption | rw [cup_ne (by omega)]) rfl inX1 (by decide) tw_91 rfl ?_
      refine n_alen hX dX1_init_35 hd73 rfl ?_
      refine n_icmp_ge (tgt := 58) hX dX1_init_36 (by decide) ⟨by omega, by omega⟩ ⟨by decide, by decide⟩ (fun hc => absurd hc (by omega)) (fun _ => ?_)
      refine n_aload_n hX dX1_init_39 rfl ?_
      refine n_get (ci := 1) (j := 0) (N := 4) (T := TX1) hX dX1_init_40 (by repeat first | exact cup_eq | assumption | rw [cup_ne (by omega)]) rfl inX1 (by decide) tw_91 rfl ?_
      refine n_iload_n hX dX1_init_43 rfl ?_
      refine n_new (k := 53 + i) (ci := 5) (N := 2) (T := TX5) (ty := tyX5) (fs := blkF5) hX dX1_init_44 rfl inX5 tyX5_ok tw_76 tw_77 tw_5 blk5_ok (by omega) (by omega) (by omega) (by omega) ?_
      refine n_dup hX dX1_init_47 rfl ?_
      refine n_initN hX hKN tn_78 tw_79 tw_5 tw_80 rfl (by decide +kernel) dX1_init_48 (i_pile hI cup_eq (by omega) hp2 (by omega)) (by omega) (by decide) rfl (Nat.le_of_ble_eq_true rfl) (by omega) (by omega) ?_
      refine n_aast (k := 73) (t := 4) (N := 5) (ci := 5) (k2 := 53 + i) (i := i) hX dX1_init_51 (by rw [cup_ne (by omega), cup_ne (by omega), cup_ne (by omega)]; exact hd73) rfl cup_eq rfl rfl (by omega) (by decide) (hX.2.2.2.2.2.2.2.2.1 _ (by omega)) ?_
      refine n_iinc hX dX1_init_52 (i := 1) rfl ck_at0 ?_
      refine n_goto (tgt := 30) hX dX1_init_55 (by decide) ?_
      refine n_eq ?_ (by omega) (by omega) (by omega) (ih (i + 1) (by omega))
      funext q
      unfold DGc
      by_cases e1 : q = 73
      · subst e1
        rw [cup_eq, if_neg (by decide), if_pos rfl]
        congr 2
        funext j
        unfold va_up
        by_cases e2 : j = i
        · rw [if_pos e2, if_pos (by omega), e2]
        · rw [if_neg e2]
          show (if j < i then some (V.2.1 (53 + j)) else none) = _
          by_cases e3 : j < i
          · rw [if_pos e3, if_pos (by omega)]
          · rw [if_neg e3, if_neg (by omega)]
      · rw [cup_ne e1]
        by_cases e2 : q = 53 + i
        · rw [e2, cup_eq, if_neg (by omega), if_neg (by omega), if_neg (by omega), if_neg (by omega), if_pos (by omega)]
        · rw [cup_ne e2]
          by_cases e3 : q = 53 + i + 5
          · rw [e3, cup_eq, if_neg (by omega), if_neg (by omega), if_neg (by omega), if_neg (by omega), if_neg (by omega), if_pos (by omega)]
          · rw [cup_ne e3, cup_ne e2]
            by_cases e4 : q = 72
            · rw [if_pos e4, if_pos e4]
            · rw [if_neg e4, if_neg e4, if_neg e1, if_neg e1]
              by_cases e5 : q = 74
              · rw [if_pos e5, if_pos e5]
              · rw [if_neg e5, if_neg e5]
                by_cases e6 : q = 75
                · rw [if_pos e6, if_pos e6]
                · rw [if_neg e6, if_neg e6]
                  by_cases e7 : 53 ≤ q ∧ q < 53 + i
                  · rw [if_pos e7, if_pos (by omega)]
                  · rw [if_neg e7, if_neg (show ¬ (53 ≤ q ∧ q < 53 + (i + 1)) by omega)]
                    by_cases e8 : 58 ≤ q ∧ q < 58 + i
                    · rw [if_pos e8, if_pos (by omega)]
                    · rw [if_neg e8, if_neg (by omega)]
  refine n_aload_n hX dX1_init_0 rfl ?_
  refine n_objInit hX rfl dX1_init_1 tw_75 tw_16 tw_17 (by omega) (Nat.le_of_ble_eq_true rfl) ?_
  refine n_aload_n hX dX1_init_4 rfl ?_
  refine n_iconst hX dX1_init_5 ?_
  refine n_newR (k := 73) (t := 4) (N := 5) hX dX1_init_6 tw_76 hKN.2.2.2.2 rfl rfl (by decide) (by omega) (by omega) (by omega) (by omega) ?_
  refine n_putF (ci := 1) (j := 0) (N := 4) (T := TX1) (ty := .array (.object "StoneBeds$Pile")) hX dX1_init_9 (by repeat first | exact cup_eq | assumption | rw [cup_ne (by omega)]) rfl inX1 tyX1_ok nmX1 (by decide) tw_91 rfl hnm rfl (by decide +kernel) rfl rfl (by exact Nat.le_of_ble_eq_true rfl) (hX.2.2.2.2.2.2.2.2.1 _ (by omega)) ?_
  refine n_aload_n hX dX1_init_12 rfl ?_
  refine n_bipush hX dX1_init_13 rfl ?_
  refine n_newI (k := 74) (N := 40) hX dX1_init_15 tw_50 rfl (by decide) (by omega) (by omega) (by omega) (by omega) ?_
  refine n_putF (ci := 1) (j := 1) (N := 4) (T := TX1) (ty := .array .int) hX dX1_init_17 (by repeat first | exact cup_eq | assumption | rw [cup_ne (by omega)]) rfl inX1 tyX1_ok nmX1 (by decide) tw_92 rfl hnm rfl (by decide +kernel) rfl rfl (by exact Nat.le_of_ble_eq_true rfl) (hX.2.2.2.2.2.2.2.2.1 _ (by omega)) ?_
  refine n_aload_n hX dX1_init_20 rfl ?_
  refine n_bipush hX dX1_init_21 rfl ?_
  refine n_newI (k := 75) (N := 6) hX dX1_init_23 tw_50 rfl (by decide) (by omega) (by omega) (by omega) (by omega) ?_
  refine n_putF (ci := 1) (j := 2) (N := 4) (T := TX1) (ty := .array .int) hX dX1_init_25 (by repeat first | exact cup_eq | assumption | rw [cup_ne (by omega)]) rfl inX1 tyX1_ok nmX1 (by decide) tw_93 rfl hnm rfl (by decide +kernel) rfl rfl (by exact Nat.le_of_ble_eq_true rfl) (hX.2.2.2.2.2.2.2.2.1 _ (by omega)) ?_
  refine n_iconst hX dX1_init_28 ?_
  refine n_istore_n hX dX1_init_29 (Nat.le_of_ble_eq_true rfl) ck_at0 ?_
  refine n_eq ?_ (by omega) (by omega) (by omega) (loop 5 0 rfl)
  funext q
  unfold DGc
  by_cases e1 : q = 72
  · rw [e1, cup_eq, if_pos rfl]; rfl
  · rw [cup_ne e1, if_neg e1]
    by_cases e2 : q = 75
    · rw [e2, cup_eq, if_neg (by decide), if_neg (by decide), if_pos rfl]
    · rw [cup_ne e2, cup_ne e1]
      by_cases e3 : q = 74
      · rw [e3, cup_eq, if_neg (by decide), if_pos rfl]
      · rw [cup_ne e3, cup_ne e1]
        by_cases e4 : q = 73
        · rw [e4, cup_eq, if_pos rfl]; rfl
        · rw [cup_ne e4, if_neg e4, if_neg e3, if_neg e2, if_neg (by omega), if_neg (by omega)]
