/-! the digger's reaches, and the fewest moves -/
def Tk (row : Nat → Int) (t : Nat) : Nat → (Nat → List Int) → (Nat → List Int) → Prop
  | 0, Y, Z => Z = Y
  | e + 1, Y, Z => ∃ (W : Nat → List Int) (s : Nat) (r : List Int), Tk row t e Y W ∧ s < 5 ∧ row (t + e) = (s : Int) ∧ W s = ((t + e : Nat) : Int) :: r ∧ r.length < 4 ∧ Z = yup W s r
theorem Tk_cg {row row' : Nat → Int} {t : Nat} : ∀ e Y Z, (∀ j, j < t + e → row' j = row j) → Tk row t e Y Z → Tk row' t e Y Z := by
  intro e
  induction e with
  | zero => intro Y Z _ h; exact h
  | succ e ih =>
    intro Y Z hj h
    obtain ⟨W, s, r, h1, h2, h3, h4, h5⟩ := h
    exact ⟨W, s, r, ih Y W (fun j hj' => hj j (by omega)) h1, h2, by rw [hj (t + e) (by omega)]; exact h3, h4, h5⟩
def PwS (Z : Nat → List Int) (q : Nat) (z : Int) : Prop := (∃ s : Nat, s < 5 ∧ z = (s : Int) ∧ (q : Int) ∈ Z s) ∨ (z = -4 ∧ ∀ s : Nat, s < 5 → ¬ (q : Int) ∈ Z s)
set_option maxHeartbeats 4000000 in
theorem c_reach {lnch : Launch} {V : VX} (hI : InjV V) {μ : Mem} {n k t : Nat} {Y : Nat → List Int} (ihR : ∀ k', k = k' + 1 → ReachC lnch V k') (hk : k ≤ 20) (hD : DgX μ Y) (hO : OY n t Y) (hn : μ 72 3 = (n : Int)) : Ct lnch yX1_reaches cX1_reaches 6 (some .boolean) (10 + 2 * k) V [vr V 72, vi (t : Int), vi (k : Int)] μ (pI (RePost μ n k t Y)) := by
  refine Ct_of (by decide) hI (Nat.le_of_ble_eq_true rfl) (fun E hE hX hR => ?_)
  have hX : OkX V E RX1 cX1_reaches 6 (10 + 2 * k) := hX
  show G V E μ 0 [some (vr V 72), some (vi (t : Int)), some (vi (k : Int)), none, none, none] []
  have hn6 := hO.1
  -- giving back
  have back : ∀ (e : Nat) (ν : Mem) (Z : Nat → List Int) (z4 q : Int), t + e ≤ n → KD t μ ν → DgX ν Z → Tk (ν 75) t e Y Z → ¬ Dg n k t Y → G V E ν 97 [some (vr V 72), some (vi (t : Int)), some (vi (k : Int)), some (vi q), some (vi z4), some (vi (((t + e : Nat) : Int) - 1))] [] := by
    intro e
    induction e with
    | zero =>
      intro ν Z z4 q he hK hDν hT hno
      refine g_iload hX dX1_reaches_97 rfl ?_
      refine g_iload_n hX dX1_reaches_99 rfl ?_
      refine g_icmp_lt (tgt := 126) hX dX1_reaches_100 (by decide) ⟨by omega, by omega⟩ ⟨by omega, by omega⟩ (fun _ => ?_) (fun hc => absurd hc (by omega))
      refine g_iconst hX dX1_reaches_126 ?_
      refine g_zret hX hR dX1_reaches_127 (Or.inl rfl) ⟨_, rfl, hK, Or.inr ⟨rfl, hno, by rw [← (show Z = Y from hT)]; exact hDν⟩⟩
    | succ e ih =>
      intro ν Z z4 q he hK hDν hT hno
      obtain ⟨W, s, r, t1, t2, t3, t4, hWl, t5⟩ := hT
      obtain ⟨g1, g2, g3, g4⟩ := hDν s t2
      rw [t5, yup_eq] at g1 g2 g3 g4
      have hW : yup Z s (((t + e : Nat) : Int) :: r) = W := by rw [t5, yup_yup, ← t4, yup_id]
      have hDp := hDν.put (s := s) (x := ((t + e : Nat) : Int)) t2 (by rw [t5, yup_eq]; exact hWl) (by omega)
      rw [t5, yup_eq, ← t5, hW] at hDp
      have hid : ((t + (e + 1) : Nat) : Int) - 1 = ((t + e : Nat) : Int) := by omega
      rw [hid]
      refine g_iload hX dX1_reaches_97 rfl ?_
      refine g_iload_n hX dX1_reaches_99 rfl ?_
      refine g_icmp_lt (tgt := 126) hX dX1_reaches_100 (by decide) ⟨by omega, by omega⟩ ⟨by omega, by omega⟩ (fun hc => absurd hc (by omega)) (fun _ => ?_)
      refine g_aload_n hX dX1_reaches_103 rfl ?_
      refine gf_X1_11 hX dX1_reaches_104 ?_
      refine g_aload_n hX dX1_reaches_107 rfl ?_
      refine gf_X1_21 hX dX1_reaches_108 ?_
      refine g_iload hX dX1_reaches_111 rfl ?_
      refine g_ialdN (i := t + e) hX dX1_reaches_113 (N := 6) rfl (by omega) (by omega) (by decide) ?_
      rw [t3]
      refine g_ald_piles (i := s) hX dX1_reaches_114 (by omega) (by omega) ?_
      refine g_iload hX dX1_reaches_115 rfl ?_
      refine g_v1V hX lk_X1_43 dX1_reaches_117 (c0 := 5) (by first | assumption | exact okd_part (by omega) | exact okd_bed (by omega) | exact okd_pile (by omega) | exact okd_dpile (by omega)) ⟨_, rfl, rfl⟩ (c_put hI (okd_dpile (by omega)) g2 hWl) (by first | decide | omega) (by decide) rfl (Nat.le_of_ble_eq_true rfl) (fun μ' hp => ?_)
      rw [hp]
      clear hp μ'
      refine st_iinc_6_5 hX dX1_reaches_120 (by first | exact ck_i _ | exact ck_r _ _ | exact ck_n | exact ck_0) ?_
      refine g_goto (tgt := 97) hX dX1_reaches_123 (by decide) ?_
      exact ih _ W z4 q (by omega) ((hK.st (by omega) (by omega)).st (by omega) (by omega)) hDp (Tk_cg e Y W (fun j hj => by rw [mset_cell (by omega), mset_cell (by omega)]) t1) hno
  have main : ∀ (d e : Nat) (ν : Mem) (Z : Nat → List Int) (z : Int), t + e + d = n → KD t μ ν → DgX ν Z → OY n (t + e) Z → Tk (ν 75) t e Y Z → (Dg n k t Y ↔ Dg n k (t + e) Z) → PwS Z (t + e) z → G V E ν 9 [some (vr V 72), some (vi (t : Int)), some (vi (k : Int)), some (vi ((t + e : Nat) : Int)), some (vi z), none] [] := by
    intro d
    induction d with
    | zero =>
      intro e ν Z z he hK hDν hOz hT hiff hP
      have hnν : ν 72 3 = (n : Int) := by rw [hK.1 72 (by omega) (by decide)]; exact hn
      refine g_iload_n hX dX1_reaches_9 rfl ?_
      refine g_aload_n hX dX1_reaches_10 rfl ?_
      refine gf_X1_25 hX dX1_reaches_11 ?_
      rw [hnν]
      refine g_icmp_ge (tgt := 59) hX dX1_reaches_14 (by decide) ⟨by omega, by omega⟩ ⟨by omega, by omega⟩ (fun _ => ?_) (fun hc => absurd hc (by omega))
      refine g_iload_n hX dX1_reaches_59 rfl ?_
      refine g_aload_n hX dX1_reaches_60 rfl ?_
      refine gf_X1_25 hX dX1_reaches_61 ?_
      rw [hnν]
      refine g_icmp_ge (tgt := 90) hX dX1_reaches_64 (by decide) ⟨by omega, by omega⟩ ⟨by omega, by omega⟩ (fun _ => ?_) (fun hc => absurd hc (by omega))
      refine g_iconst hX dX1_reaches_90 ?_
      refine g_zret hX hR dX1_reaches_91 (Or.inr rfl) ⟨_, rfl, hK, Or.inl ⟨rfl, hiff.mpr (by rw [show t + e = n by omega]; exact Dg_done)⟩⟩
    | succ d ih =>
      intro e ν Z z he hK hDν hOz hT hiff hP
      have hqn : t + e < n := by omega
      have hnν : ν 72 3 = (n : Int) := by rw [hK.1 72 (by omega) (by decide)]; exact hn
      obtain ⟨s, hs, rfl, hm⟩ : ∃ s : Nat, s < 5 ∧ z = (s : Int) ∧ ((t + e : Nat) : Int) ∈ Z s := by
        rcases hP with h | ⟨-, h⟩
        · exact h
        · obtain ⟨s, h1, h2⟩ := hOz.ex (Nat.le_refl _) hqn
          exact absurd h2 (h s h1)
      obtain ⟨h1, h2, h3, h4⟩ := hDν s hs
      refine g_iload_n hX dX1_reaches_9 rfl ?_
      refine g_aload_n hX dX1_reaches_10 rfl ?_
      refine gf_X1_25 hX dX1_reaches_11 ?_
      rw [hnν]
      refine g_icmp_ge (tgt := 59) hX dX1_reaches_14 (by decide) ⟨by omega, by omega⟩ ⟨by omega, by omega⟩ (fun hc => absurd hc (by omega)) (fun _ => ?_)
      refine g_aload_n hX dX1_reaches_17 rfl ?_
      refine g_iload hX dX1_reaches_18 rfl ?_
      refine g_iload_n hX dX1_reaches_20 rfl ?_
      refine g_v2I hX lk_X1_58 dX1_reaches_21 (c0 := 1) ok72 ⟨_, rfl, rfl⟩ (c_isTop hI hDν hs ⟨by omega, by omega⟩) (by first | decide | omega) (by decide) rfl (Nat.le_of_ble_eq_true rfl) (fun z μ' hp => ?_)
      obtain ⟨rfl, hm⟩ := hp
      rw [hm]
      clear hm μ'
      match hZ : Z s, hm with
      | x :: r, hm =>
      by_cases hx : x = ((t + e : Nat) : Int)
      · subst hx
        rw [if_pos (show (((t + e : Nat) : Int) :: r).head? = some ((t + e : Nat) : Int) from rfl)]
        refine g_if_eq (tgt := 59) hX dX1_reaches_24 (by decide) ⟨by omega, by omega⟩ (fun hc => absurd hc (by omega)) (fun _ => ?_)
        have hr : r.length < 4 := by rw [hZ, List.length_cons] at h1; exact h1
        have hD1 : DgX (mset ν 75 (t + e) (s : Int)) Z := hDν.cg (fun k h1 h2 => mset_cell (by omega))
        obtain ⟨g1, g2, g3, g4⟩ := hD1 s hs
        obtain ⟨c1, c2, c3, c4⟩ := hD1.off hs hZ
        have hK1 : KD t μ (mset (mset ν 75 (t + e) (s : Int)) (53 + s) 1 (((Z s).length : Int) - 1)) := KD.st (hK.tr ⟨fun k h1 h2 => mset_cell (by omega), fun j hj => mset_ne (Or.inr (by omega))⟩) (by omega) (by omega)
        refine g_aload_n hX dX1_reaches_27 rfl ?_
        refine gf_X1_21 hX dX1_reaches_28 ?_
        refine g_iload_n hX dX1_reaches_31 rfl ?_
        refine g_iload hX dX1_reaches_32 rfl ?_
        refine g_iastN (i := t + e) hX dX1_reaches_34 (N := 6) rfl (by omega) (by omega) (by decide) ?_
        refine g_aload_n hX dX1_reaches_35 rfl ?_
        refine gf_X1_11 hX dX1_reaches_36 ?_
        refine g_iload hX dX1_reaches_39 rfl ?_
        refine g_ald_piles (i := s) hX dX1_reaches_41 (by omega) (by omega) ?_
        refine g_v0I hX lk_X1_61 dX1_reaches_42 (c0 := 5) (by first | assumption | exact okd_part (by omega) | exact okd_bed (by omega) | exact okd_pile (by omega) | exact okd_dpile (by omega)) ⟨_, rfl, rfl⟩ (c_takeOff hI (okd_dpile (by omega)) g2 g1 c3) (by first | decide | omega) (by decide) rfl (Nat.le_of_ble_eq_true rfl) (fun z μ' hp => ?_)
        obtain ⟨rfl, hm⟩ := hp
        rw [hm]
        clear hm μ'
        refine g_pop hX dX1_reaches_45 rfl ?_
        refine st_iinc_6_3 hX dX1_reaches_46 (by first | exact ck_i _ | exact ck_r _ _ | exact ck_n | exact ck_0) ?_
        refine g_aload_n hX dX1_reaches_49 rfl ?_
        refine g_iload_n hX dX1_reaches_50 rfl ?_
        refine g_v1I hX lk_X1_55 dX1_reaches_51 (c0 := 1) ok72 ⟨_, rfl, rfl⟩ (c_pileWith hI c1 ⟨by omega, by omega⟩) (by first | decide | omega) (by decide) rfl (Nat.le_of_ble_eq_true rfl) (fun z μ' hp => ?_)
        obtain ⟨hp1, hm'⟩ := hp
        rw [hm']
        clear hm' μ'
        refine st_istore_6_4 hX dX1_reaches_54 (by first | exact ck_i _ | exact ck_r _ _ | exact ck_n | exact ck_0) ?_
        refine g_goto (tgt := 9) hX dX1_reaches_56 (by decide) ?_
        refine ih (e + 1) _ _ z (by omega) hK1 c1 (hOz.take hqn hs hZ) ⟨Z, s, r, Tk_cg e Y Z (fun j hj => by rw [mset_cell (by omega), mset_ne (Or.inr (by omega))]) hT, hs, by rw [mset_cell (by omega), mset_same], hZ, hr, rfl⟩ (hiff.trans (Dg_top hOz hqn hs hZ)) hp1
      · have hmr : ((t + e : Nat) : Int) ∈ r := by
          rcases List.mem_cons.mp hm with h | h
          · exact absurd h.symm hx
          · exact h
        rw [if_neg (show ¬ (x :: r).head? = some ((t + e : Nat) : Int) from fun q => hx (Option.some.inj q))]
        refine g_if_eq (tgt := 59) hX dX1_reaches_24 (by decide) ⟨by omega, by omega⟩ (fun _ => ?_) (fun hc => absurd hc (by omega))
        have fail : ∀ (ν : Mem), KD t μ ν → DgX ν Z → Tk (ν 75) t e Y Z → ¬ Dg n k (t + e) Z → G V E ν 92 [some (vr V 72), some (vi (t : Int)), some (vi (k : Int)), some (vi ((t + e : Nat) : Int)), some (vi (s : Int)), none] [] := fun ν hK hDν hT hno => by
          refine g_iload_n hX dX1_reaches_92 rfl ?_
          refine g_iconst hX dX1_reaches_93 ?_
          refine g_isub hX dX1_reaches_94 ?_
          refine st_istore_6_5 hX dX1_reaches_95 (by first | exact ck_i _ | exact ck_r _ _ | exact ck_n | exact ck_0) ?_
          exact back e ν Z _ _ (by omega) hK hDν hT (fun h => hno (hiff.mp h))
        refine g_iload_n hX dX1_reaches_59 rfl ?_
        refine g_aload_n hX dX1_reaches_60 rfl ?_
        refine gf_X1_25 hX dX1_reaches_61 ?_
        rw [hnν]
        refine g_icmp_ge (tgt := 90) hX dX1_reaches_64 (by decide) ⟨by omega, by omega⟩ ⟨by omega, by omega⟩ (fun hc => absurd hc (by omega)) (fun _ => ?_)
        refine g_iload_n hX dX1_reaches_67 rfl ?_
        refine g_if_le (tgt := 92) hX dX1_reaches_68 (by decide) ⟨by omega, by omega⟩ (fun a1 => ?_) (fun a1 => ?_)
        · refine fail ν hK hDν hT (fun hg => ?_)
          obtain ⟨k', d', hk', -⟩ := (Dg_dig hOz hqn hs hZ hmr).mp hg
          omega
        refine g_aload_n hX dX1_reaches_71 rfl ?_
        refine g_v0I hX lk_X1_47 dX1_reaches_72 (c0 := 1) ok72 ⟨_, rfl, rfl⟩ (c_mustMove hI hDν) (by first | decide | omega) (by decide) rfl (Nat.le_of_ble_eq_true rfl) (fun z μ' hp => ?_)
        obtain ⟨rfl, hm⟩ := hp
        rw [hm]
        clear hm μ'
        have hmm : mm5 Z ≤ 20 := by
          rw [← mmK_5]
          exact mmK_le (fun s hs => (hDν s hs).1) 5 (by decide)
        refine g_iload_n hX dX1_reaches_75 rfl ?_
        refine g_icmp_gt (tgt := 92) hX dX1_reaches_76 (by decide) ⟨by omega, by omega⟩ ⟨by omega, by omega⟩ (fun a2 => ?_) (fun a2 => ?_)
        · refine fail ν hK hDν hT (fun ⟨f, hf⟩ => ?_)
          have := Sol_mm f k _ _ hf hOz
          omega
        obtain ⟨k', rfl⟩ : ∃ k', k = k' + 1 := ⟨k - 1, by omega⟩
        refine g_aload_n hX dX1_reaches_79 rfl ?_
        refine g_iload hX dX1_reaches_80 rfl ?_
        refine g_iload_n hX dX1_reaches_82 rfl ?_
        refine g_iload_n hX dX1_reaches_83 rfl ?_
        refine g_v3I hX lk_X1_64 dX1_reaches_84 (c0 := 1) ok72 ⟨_, rfl, rfl⟩ (c_digs hI (hE.symm ▸ ihR k' rfl) (by omega) hDν hOz hnν hqn hs hZ hmr) (by first | decide | omega) (by decide) rfl (Nat.le_of_ble_eq_true rfl) (fun z μ' hp => ?_)
        obtain ⟨hp1, hp2⟩ := hp
        have hK' : KD t μ μ' := hK.tr (hp1.lo (by omega))
        rcases hp2 with ⟨rfl, hg⟩ | ⟨rfl, hg, hDb⟩
        · refine g_if_eq (tgt := 92) hX dX1_reaches_87 (by decide) ⟨by omega, by omega⟩ (fun hc => absurd hc (by omega)) (fun _ => ?_)
          refine g_iconst hX dX1_reaches_90 ?_
          refine g_zret hX hR dX1_reaches_91 (Or.inr rfl) ⟨_, rfl, hK', Or.inl ⟨rfl, hiff.mpr hg⟩⟩
        · refine g_if_eq (tgt := 92) hX dX1_reaches_87 (by decide) ⟨by omega, by omega⟩ (fun _ => ?_) (fun hc => absurd hc (by omega))
          exact fail μ' hK' hDb (Tk_cg e Y Z (fun j hj => hp1.2 j hj) hT) hg
  have htn := hO.2.1
  refine g_iload_n hX dX1_reaches_0 rfl ?_
  refine st_istore_n_6_3 hX dX1_reaches_1 (by first | exact ck_i _ | exact ck_r _ _ | exact ck_n | exact ck_0) ?_
  refine g_aload_n hX dX1_reaches_2 rfl ?_
  refine g_iload_n hX dX1_reaches_3 rfl ?_
  refine g_v1I hX lk_X1_55 dX1_reaches_4 (c0 := 1) ok72 ⟨_, rfl, rfl⟩ (c_pileWith hI hD ⟨by omega, by omega⟩) (by first | decide | omega) (by decide) rfl (Nat.le_of_ble_eq_true rfl) (fun z μ' hp => ?_)
  obtain ⟨hp1, hm'⟩ := hp
  rw [hm']
  clear hm' μ'
  refine st_istore_6_4 hX dX1_reaches_7 (by first | exact ck_i _ | exact ck_r _ _ | exact ck_n | exact ck_0) ?_
  exact main (n - t) 0 μ Y z (by omega) KD.rf hD hO rfl Iff.rfl hp1
theorem reach_all {lnch : Launch} {V : VX} (hI : InjV V) : ∀ k, k ≤ 20 → ReachC lnch V k := by
  intro k
  induction k with
  | zero => intro hk μ n t Y hD hO hn; exact c_reach hI (fun k' h => absurd h (by omega)) hk hD hO hn
  | succ k ih => intro hk μ n t Y hD hO hn; exact c_reach hI (fun k' h => by rw [show k' = k by omega]; exact ih (by omega)) hk hD hO hn
set_option maxHeartbeats 4000000 in
theorem c_fewm {lnch : Launch} {V : VX} (hI : InjV V) {μ : Mem} {n : Nat} {Y : Nat → List Int} (hD : DgX μ Y) (hO : OY n 0 Y) (hn : μ 72 3 = (n : Int)) (htot : tot5 Y ≤ 10) : Ct lnch yX1_fewestMoves cX1_fewestMoves 2 (some .int) 47 V [vr V 72] μ (pI (fun z μ' => (∃ k : Nat, z = (k : Int) ∧ LDg n 0 Y k) ∧ KD 0 μ μ')) := by
  refine Ct_of (by decide) hI (Nat.le_of_ble_eq_true rfl) (fun E hE hX hR => ?_)
  have hX : OkX V E RX1 cX1_fewestMoves 2 47 := hX
  show G V E μ 0 [some (vr V 72), none] []
  have hn6 := hO.1
  have h18 : Dg n 18 0 Y := by
    have := Dg_up (Dg_all n 0 Y (by omega) hO htot) (18 - 3 * n)
    rw [show 3 * n + (18 - 3 * n) = 18 by omega] at this
    exact this
  have loop : ∀ (d k : Nat) (ν : Mem), k + d = 18 → KD 0 μ ν → DgX ν Y → (∀ j, j < k → ¬ Dg n j 0 Y) → G V E ν 5 [some (vr V 72), some (vi (k : Int))] [] := by
    intro d
    induction d with
    | zero =>
      intro k ν hk hK hDν hno
      refine g_iload_n hX dX1_fewestMoves_5 rfl ?_
      refine g_bipush hX dX1_fewestMoves_6 rfl ?_
      refine g_icmp_ge (tgt := 26) hX dX1_fewestMoves_8 (by decide) ⟨by omega, by omega⟩ ⟨by omega, by omega⟩ (fun _ => ?_) (fun hc => absurd hc (by omega))
      refine g_iload_n hX dX1_fewestMoves_26 rfl ?_
      refine g_iret hX hR dX1_fewestMoves_27 ⟨_, rfl, ⟨k, rfl, by rw [show k = 18 by omega]; exact h18, hno⟩, hK⟩
    | succ d ih =>
      intro k ν hk hK hDν hno
      refine g_iload_n hX dX1_fewestMoves_5 rfl ?_
      refine g_bipush hX dX1_fewestMoves_6 rfl ?_
      refine g_icmp_ge (tgt := 26) hX dX1_fewestMoves_8 (by decide) ⟨by omega, by omega⟩ ⟨by omega, by omega⟩ (fun hc => absurd hc (by omega)) (fun _ => ?_)
      refine g_aload_n hX dX1_fewestMoves_11 rfl ?_
      refine g_iconst hX dX1_fewestMoves_12 ?_
      refine g_iload_n hX dX1_fewestMoves_13 rfl ?_
      refine g_v2I hX lk_X1_51 dX1_fewestMoves_14 (c0 := 1) ok72 ⟨_, rfl, rfl⟩ (reach_all (lnch := E.1.2.1) hI k (by omega) ν n 0 Y hDν hO (by rw [hK.1 72 (by omega) (by decide)]; exact hn)) (by first | decide | omega) (by decide) rfl (Nat.le_of_ble_eq_true rfl) (fun z μ' hp => ?_)
      obtain ⟨hp1, hp2⟩ := hp
      rcases hp2 with ⟨rfl, hg⟩ | ⟨rfl, hg, hDb⟩
      · refine g_if_ne (tgt := 26) hX dX1_fewestMoves_17 (by decide) ⟨by omega, by omega⟩ (fun _ => ?_) (fun hc => absurd hc (by omega))
        refine g_iload_n hX dX1_fewestMoves_26 rfl ?_
        refine g_iret hX hR dX1_fewestMoves_27 ⟨_, rfl, ⟨k, rfl, hg, hno⟩, hK.tr hp1⟩
      · refine g_if_ne (tgt := 26) hX dX1_fewestMoves_17 (by decide) ⟨by omega, by omega⟩ (fun hc => absurd hc (by omega)) (fun _ => ?_)
        refine st_iinc_2_1 hX dX1_fewestMoves_20 (by first | exact ck_i _ | exact ck_r _ _ | exact ck_n | exact ck_0) ?_
        refine g_goto (tgt := 5) hX dX1_fewestMoves_23 (by decide) ?_
        refine ih (k + 1) μ' (by omega) (hK.tr hp1) hDb (fun j hj => ?_)
        by_cases e : j = k
        · rw [e]; exact hg
        · exact hno j (by omega)
  refine g_aload_n hX dX1_fewestMoves_0 rfl ?_
  refine g_v0I hX lk_X1_47 dX1_fewestMoves_1 (c0 := 1) ok72 ⟨_, rfl, rfl⟩ (c_mustMove hI hD) (by first | decide | omega) (by decide) rfl (Nat.le_of_ble_eq_true rfl) (fun z μ' hp => ?_)
  obtain ⟨rfl, hm⟩ := hp
  rw [hm]
  clear hm μ'
  have hmm : mm5 Y ≤ 18 := by
    obtain ⟨f, hf⟩ := h18
    exact Sol_mm f 18 _ _ hf hO
  refine st_istore_n_2_1 hX dX1_fewestMoves_4 (by first | exact ck_i _ | exact ck_r _ _ | exact ck_n | exact ck_0) ?_
  exact loop (18 - mm5 Y) (mm5 Y) μ (by omega) KD.rf hD (fun j hj ⟨f, hf⟩ => by
    have := Sol_mm f j _ _ hf hO
    omega)
