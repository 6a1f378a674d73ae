/-! the digger's reaches, and the fewest moves -/
def Tk (row : Nat → Int) (t : Nat) : Nat → (Nat → List Int) → (Nat → List Int) → Prop
  | 0, Y, Z => Z = Y
  | e + 1, Y, Z => ∃ (W : Nat → List Int) (s : Nat) (r : List Int), Tk row t e Y W ∧ s < 5 ∧ row (t + e) = (s : Int) ∧ W s = ((t + e : Nat) : Int) :: r ∧ r.length < 4 ∧ Z = yup W s r
theorem Tk_cg {row row' : Nat → Int} {t : Nat} : ∀ e Y Z, (∀ j, j < t + e → row' j = row j) → Tk row t e Y Z → Tk row' t e Y Z := by
  intro e
  induction e with
  | zero => intro Y Z _ h; exact h
  | succ e ih =>
    intro Y Z hj h
    obtain ⟨W, s, r, h1, h2, h3, h4, h5⟩ := h
    exact ⟨W, s, r, ih Y W (fun j hj' => hj j (by omega)) h1, h2, by rw [hj (t + e) (by omega)]; exact h3, h4, h5⟩
def TakeP (μ : Mem) (q : Nat) (Y : Nat → List Int) : Int → Mem → Prop := fun z μ' =>
  (∃ (s : Nat) (r : List Int), z = 1 ∧ s < 5 ∧ Y s = (q : Int) :: r ∧ μ' = mset (mset μ 75 q (s : Int)) (53 + s) 1 (((Y s).length : Int) - 1)) ∨
  (z = 0 ∧ (∃ (s : Nat) (x : Int) (r : List Int), s < 5 ∧ Y s = x :: r ∧ (q : Int) ∈ r) ∧ μ' = μ)
set_option maxHeartbeats 4000000 in
theorem c_dtakes {lnch : Launch} {V : VX} (hI : InjV V) {μ : Mem} {n q : Nat} {Y : Nat → List Int} (hD : DgX μ Y) (hO : OY n q Y) (hq : q < n) : Ct lnch yX1_takes cX1_takes 4 (some .boolean) 5 V [vr V 72, vi (q : Int)] μ (pI (TakeP μ q Y)) := by
  refine Ct_of (by decide) hI (Nat.le_of_ble_eq_true rfl) (fun E hE hX hR => ?_)
  have hX : OkX V E RX1 cX1_takes 4 5 := hX
  show G V E μ 0 [some (vr V 72), some (vi (q : Int)), none, none] []
  have hn6 := hO.1
  refine g_aload_n hX dX1_takes_0 rfl ?_
  refine g_iload_n hX dX1_takes_1 rfl ?_
  refine g_v1I hX lk_X1_65 dX1_takes_2 (c0 := 1) ok72 ⟨_, rfl, rfl⟩ (c_pileWith hI hD ⟨by omega, by omega⟩) (by first | decide | omega) (by decide) rfl (Nat.le_of_ble_eq_true rfl) (fun z μ' hp => ?_)
  obtain ⟨hp, hm'⟩ := hp
  rw [hm']
  clear hm' μ'
  obtain ⟨s, hs, rfl, hm⟩ : ∃ s : Nat, s < 5 ∧ z = (s : Int) ∧ (q : Int) ∈ Y s := by
    rcases hp with h | ⟨-, h⟩
    · exact h
    · obtain ⟨s, h1, h2⟩ := hO.ex (Nat.le_refl _) hq
      exact absurd h2 (h s h1)
  obtain ⟨h1, h2, h3, h4⟩ := hD s hs
  obtain ⟨x, r, hY⟩ : ∃ x r, Y s = x :: r := by
    cases h : Y s with
    | nil => rw [h] at hm; exact absurd hm List.not_mem_nil
    | cons x r => exact ⟨x, r, rfl⟩
  obtain ⟨o1, o2, o3, o4⟩ := hD.off hs hY
  refine st_istore_n_4_2 hX dX1_takes_5 (by first | exact ck_i _ | exact ck_r _ _ | exact ck_n | exact ck_0) ?_
  refine g_aload_n hX dX1_takes_6 rfl ?_
  refine g_iload_n hX dX1_takes_7 rfl ?_
  refine g_v1R hX lk_X1_29 dX1_takes_8 (c0 := 1) ok72 ⟨_, rfl, rfl⟩ (c_pileOf hI ⟨by omega, by omega⟩) (by first | decide | omega) (by decide) rfl (Nat.le_of_ble_eq_true rfl) (fun r μ' hp => ?_)
  obtain ⟨rfl, hm⟩ := hp
  rw [hm]
  clear hm μ'
  rw [if_pos (by omega), show ((s : Int)).toNat = s from rfl]
  show G V E μ 11 _ (vr V (53 + s) :: [])
  refine st_astore_n_4_3 hX dX1_takes_11 (by first | exact ck_i _ | exact ck_r _ _ | exact ck_n | exact ck_0) ?_
  refine g_aload_n hX dX1_takes_12 rfl ?_
  refine g_ifnull hX dX1_takes_13 ?_
  refine g_aload_n hX dX1_takes_16 rfl ?_
  refine g_v0I hX lk_X1_68 dX1_takes_17 (c0 := 5) (by first | assumption | exact okd_part (by omega) | exact okd_bed (by omega) | exact okd_pile (by omega) | exact okd_dpile (by omega)) ⟨_, rfl, rfl⟩ (c_top hI (okd_dpile (by omega)) h2 h1) (by first | decide | omega) (by decide) rfl (Nat.le_of_ble_eq_true rfl) (fun z μ' hp => ?_)
  obtain ⟨rfl, hm⟩ := hp
  rw [hm]
  clear hm μ'
  rw [if_pos o3, o2]
  refine g_iload_n hX dX1_takes_20 rfl ?_
  refine g_icmp_ne (tgt := 37) hX dX1_takes_21 (by decide) ⟨by omega, by omega⟩ ⟨by omega, by omega⟩ (fun hc => ?_) (fun hc => ?_)
  · refine g_iconst hX dX1_takes_37 ?_
    refine g_zret hX hR dX1_takes_38 (Or.inl rfl) ⟨_, rfl, Or.inr ⟨rfl, ⟨s, x, r, hs, hY, ?_⟩, rfl⟩⟩
    rw [hY] at hm
    rcases List.mem_cons.mp hm with h | h
    · exact absurd h.symm hc
    · exact h
  subst hc
  have hD1 : DgX (mset μ 75 q (s : Int)) Y := hD.cg (fun k h1 h2 => mset_cell (by omega))
  obtain ⟨g1, g2, g3, g4⟩ := hD1 s hs
  refine g_iload_n hX dX1_takes_24 rfl ?_
  refine g_if_lt (tgt := 37) hX dX1_takes_25 (by decide) ⟨by omega, by omega⟩ (fun hc => absurd hc (by omega)) (fun _ => ?_)
  refine g_iload_n hX dX1_takes_28 rfl ?_
  refine g_aload_n hX dX1_takes_29 rfl ?_
  refine gf_X1_21 hX dX1_takes_30 ?_
  refine g_alen hX dX1_takes_33 (N := 6) (Or.inl ⟨rfl, by decide⟩) ?_
  refine g_icmp_lt (tgt := 39) hX dX1_takes_34 (by decide) ⟨by omega, by omega⟩ ⟨by omega, by omega⟩ (fun _ => ?_) (fun hc => absurd hc (by omega))
  refine g_aload_n hX dX1_takes_39 rfl ?_
  refine gf_X1_21 hX dX1_takes_40 ?_
  refine g_iload_n hX dX1_takes_43 rfl ?_
  refine g_iload_n hX dX1_takes_44 rfl ?_
  refine g_iastN hX dX1_takes_45 (N := 6) rfl rfl (by omega) (by decide) ?_
  refine g_aload_n hX dX1_takes_46 rfl ?_
  refine g_v0I hX lk_X1_71 dX1_takes_47 (c0 := 5) (by first | assumption | exact okd_part (by omega) | exact okd_bed (by omega) | exact okd_pile (by omega) | exact okd_dpile (by omega)) ⟨_, rfl, rfl⟩ (c_takeOff hI (okd_dpile (by omega)) g2 g1 o3) (by first | decide | omega) (by decide) rfl (Nat.le_of_ble_eq_true rfl) (fun z μ' hp => ?_)
  obtain ⟨rfl, hm⟩ := hp
  rw [hm]
  clear hm μ'
  refine g_pop hX dX1_takes_50 rfl ?_
  refine g_iconst hX dX1_takes_51 ?_
  refine g_zret hX hR dX1_takes_52 (Or.inr rfl) ⟨_, rfl, Or.inl ⟨s, r, rfl, hs, hY, rfl⟩⟩
set_option maxHeartbeats 4000000 in
theorem c_putBack {lnch : Launch} {V : VX} (hI : InjV V) {μ : Mem} {q s h : Nat} (hq : q < 6) (hs : s < 5) (ht : μ 75 q = (s : Int)) (hh : μ (53 + s) 1 = (h : Int)) (h4 : h < 4) : Ct lnch yX1_putBack cX1_putBack 3 none 2 V [vr V 72, vi (q : Int)] μ (pV (fun μ' => μ' = mset (mset μ (53 + s + 5) h (q : Int)) (53 + s) 1 ((h : Int) + 1))) := by
  refine Ct_of (by decide) hI (Nat.le_of_ble_eq_true rfl) (fun E hE hX hR => ?_)
  have hX : OkX V E RX1 cX1_putBack 3 2 := hX
  show G V E μ 0 [some (vr V 72), some (vi (q : Int)), none] []
  refine g_iload_n hX dX1_putBack_0 rfl ?_
  refine g_if_lt (tgt := 13) hX dX1_putBack_1 (by decide) ⟨by omega, by omega⟩ (fun hc => absurd hc (by omega)) (fun _ => ?_)
  refine g_iload_n hX dX1_putBack_4 rfl ?_
  refine g_aload_n hX dX1_putBack_5 rfl ?_
  refine gf_X1_21 hX dX1_putBack_6 ?_
  refine g_alen hX dX1_putBack_9 (N := 6) (Or.inl ⟨rfl, by decide⟩) ?_
  refine g_icmp_lt (tgt := 17) hX dX1_putBack_10 (by decide) ⟨by omega, by omega⟩ ⟨by omega, by omega⟩ (fun _ => ?_) (fun hc => absurd hc (by omega))
  refine g_aload_n hX dX1_putBack_17 rfl ?_
  refine g_aload_n hX dX1_putBack_18 rfl ?_
  refine gf_X1_21 hX dX1_putBack_19 ?_
  refine g_iload_n hX dX1_putBack_22 rfl ?_
  refine g_ialdN hX dX1_putBack_23 (N := 6) rfl rfl (by omega) (by decide) ?_
  rw [ht]
  refine g_v1R hX lk_X1_29 dX1_putBack_24 (c0 := 1) ok72 ⟨_, rfl, rfl⟩ (c_pileOf hI ⟨by omega, by omega⟩) (by first | decide | omega) (by decide) rfl (Nat.le_of_ble_eq_true rfl) (fun r μ' hp => ?_)
  obtain ⟨rfl, hm⟩ := hp
  rw [hm]
  clear hm μ'
  rw [if_pos (by omega), show ((s : Int)).toNat = s from rfl]
  show G V E μ 27 _ (vr V (53 + s) :: [])
  refine st_astore_n_3_2 hX dX1_putBack_27 (by first | exact ck_i _ | exact ck_r _ _ | exact ck_n | exact ck_0) ?_
  refine g_aload_n hX dX1_putBack_28 rfl ?_
  refine g_ifnull hX dX1_putBack_29 ?_
  refine g_aload_n hX dX1_putBack_32 rfl ?_
  refine g_iload_n hX dX1_putBack_33 rfl ?_
  refine g_v1V hX lk_X1_43 dX1_putBack_34 (c0 := 5) (by first | assumption | exact okd_part (by omega) | exact okd_bed (by omega) | exact okd_pile (by omega) | exact okd_dpile (by omega)) ⟨_, rfl, rfl⟩ (c_put hI (okd_dpile (by omega)) hh h4) (by first | decide | omega) (by decide) rfl (Nat.le_of_ble_eq_true rfl) (fun μ' hp => ?_)
  rw [hp]
  clear hp μ'
  refine g_vret hX hR dX1_putBack_37 ⟨rfl, rfl⟩
set_option maxHeartbeats 4000000 in
theorem c_reach {lnch : Launch} {V : VX} (hI : InjV V) {μ : Mem} {n k t : Nat} {Y : Nat → List Int} (ihR : ∀ k', k = k' + 1 → ReachC lnch V k') (hk : k ≤ 20) (hD : DgX μ Y) (hO : OY n t Y) (hn : μ 72 3 = (n : Int)) : Ct lnch yX1_reaches cX1_reaches 5 (some .boolean) (10 + 2 * k) V [vr V 72, vi (t : Int), vi (k : Int)] μ (pI (RePost μ n k t Y)) := by
  refine Ct_of (by decide) hI (Nat.le_of_ble_eq_true rfl) (fun E hE hX hR => ?_)
  have hX : OkX V E RX1 cX1_reaches 5 (10 + 2 * k) := hX
  show G V E μ 0 [some (vr V 72), some (vi (t : Int)), some (vi (k : Int)), none, none] []
  have hn6 := hO.1
  -- giving back
  have back : ∀ (e : Nat) (ν : Mem) (Z : Nat → List Int) (q : Int), t + e ≤ n → KD t μ ν → DgX ν Z → Tk (ν 75) t e Y Z → ¬ Dg n k t Y → G V E ν 60 [some (vr V 72), some (vi (t : Int)), some (vi (k : Int)), some (vi q), some (vi (((t + e : Nat) : Int) - 1))] [] := by
    intro e
    induction e with
    | zero =>
      intro ν Z q he hK hDν hT hno
      refine g_iload hX dX1_reaches_60 rfl ?_
      refine g_iload_n hX dX1_reaches_62 rfl ?_
      refine g_icmp_lt (tgt := 78) hX dX1_reaches_63 (by decide) ⟨by omega, by omega⟩ ⟨by omega, by omega⟩ (fun _ => ?_) (fun hc => absurd hc (by omega))
      refine g_iconst hX dX1_reaches_78 ?_
      refine g_zret hX hR dX1_reaches_79 (Or.inl rfl) ⟨_, rfl, hK, Or.inr ⟨rfl, hno, by rw [← (show Z = Y from hT)]; exact hDν⟩⟩
    | succ e ih =>
      intro ν Z q he hK hDν hT hno
      obtain ⟨W, s, r, t1, t2, t3, t4, hWl, t5⟩ := hT
      obtain ⟨g1, g2, g3, g4⟩ := hDν s t2
      rw [t5, yup_eq] at g1 g2 g3 g4
      have hW : yup Z s (((t + e : Nat) : Int) :: r) = W := by rw [t5, yup_yup, ← t4, yup_id]
      have hDp := hDν.put (s := s) (x := ((t + e : Nat) : Int)) t2 (by rw [t5, yup_eq]; exact hWl) (by omega)
      rw [t5, yup_eq, ← t5, hW] at hDp
      have hid : ((t + (e + 1) : Nat) : Int) - 1 = ((t + e : Nat) : Int) := by omega
      rw [hid]
      refine g_iload hX dX1_reaches_60 rfl ?_
      refine g_iload_n hX dX1_reaches_62 rfl ?_
      refine g_icmp_lt (tgt := 78) hX dX1_reaches_63 (by decide) ⟨by omega, by omega⟩ ⟨by omega, by omega⟩ (fun hc => absurd hc (by omega)) (fun _ => ?_)
      refine g_aload_n hX dX1_reaches_66 rfl ?_
      refine g_iload hX dX1_reaches_67 rfl ?_
      refine g_v1V hX lk_X1_62 dX1_reaches_69 (c0 := 1) ok72 ⟨_, rfl, rfl⟩ (c_putBack hI (by omega) t2 t3 g2 hWl) (by first | decide | omega) (by decide) rfl (Nat.le_of_ble_eq_true rfl) (fun μ' hp => ?_)
      rw [hp]
      clear hp μ'
      refine st_iinc_5_4 hX dX1_reaches_72 (by first | exact ck_i _ | exact ck_r _ _ | exact ck_n | exact ck_0) ?_
      refine g_goto (tgt := 60) hX dX1_reaches_75 (by decide) ?_
      exact ih _ W q (by omega) ((hK.st (by omega) (by omega)).st (by omega) (by omega)) hDp (Tk_cg e Y W (fun j hj => by rw [mset_cell (by omega), mset_cell (by omega)]) t1) hno
  have main : ∀ (d e : Nat) (ν : Mem) (Z : Nat → List Int), t + e + d = n → KD t μ ν → DgX ν Z → OY n (t + e) Z → Tk (ν 75) t e Y Z → (Dg n k t Y ↔ Dg n k (t + e) Z) → G V E ν 2 [some (vr V 72), some (vi (t : Int)), some (vi (k : Int)), some (vi ((t + e : Nat) : Int)), none] [] := by
    intro d
    induction d with
    | zero =>
      intro e ν Z he hK hDν hOz hT hiff
      have hnν : ν 72 3 = (n : Int) := by rw [hK.1 72 (by omega) (by decide)]; exact hn
      refine g_iload_n hX dX1_reaches_2 rfl ?_
      refine g_aload_n hX dX1_reaches_3 rfl ?_
      refine gf_X1_25 hX dX1_reaches_4 ?_
      rw [hnν]
      refine g_icmp_ge (tgt := 24) hX dX1_reaches_7 (by decide) ⟨by omega, by omega⟩ ⟨by omega, by omega⟩ (fun _ => ?_) (fun hc => absurd hc (by omega))
      refine g_iload_n hX dX1_reaches_24 rfl ?_
      refine g_aload_n hX dX1_reaches_25 rfl ?_
      refine gf_X1_25 hX dX1_reaches_26 ?_
      rw [hnν]
      refine g_icmp_ge (tgt := 53) hX dX1_reaches_29 (by decide) ⟨by omega, by omega⟩ ⟨by omega, by omega⟩ (fun _ => ?_) (fun hc => absurd hc (by omega))
      refine g_iconst hX dX1_reaches_53 ?_
      refine g_zret hX hR dX1_reaches_54 (Or.inr rfl) ⟨_, rfl, hK, Or.inl ⟨rfl, hiff.mpr (by rw [show t + e = n by omega]; exact Dg_done)⟩⟩
    | succ d ih =>
      intro e ν Z he hK hDν hOz hT hiff
      have hqn : t + e < n := by omega
      have hnν : ν 72 3 = (n : Int) := by rw [hK.1 72 (by omega) (by decide)]; exact hn
      refine g_iload_n hX dX1_reaches_2 rfl ?_
      refine g_aload_n hX dX1_reaches_3 rfl ?_
      refine gf_X1_25 hX dX1_reaches_4 ?_
      rw [hnν]
      refine g_icmp_ge (tgt := 24) hX dX1_reaches_7 (by decide) ⟨by omega, by omega⟩ ⟨by omega, by omega⟩ (fun hc => absurd hc (by omega)) (fun _ => ?_)
      refine g_aload_n hX dX1_reaches_10 rfl ?_
      refine g_iload_n hX dX1_reaches_11 rfl ?_
      refine g_v1I hX lk_X1_55 dX1_reaches_12 (c0 := 1) ok72 ⟨_, rfl, rfl⟩ (c_dtakes hI hDν hOz hqn) (by first | decide | omega) (by decide) rfl (Nat.le_of_ble_eq_true rfl) (fun z μ' hp => ?_)
      rcases hp with ⟨s, r, rfl, hs, hZ, hm'⟩ | ⟨rfl, ⟨s, x, r, hs, hZ, hmr⟩, hm'⟩
      · rw [hm']
        clear hm' μ'
        have hr : r.length < 4 := by have h1 := (hDν s hs).1; rw [hZ, List.length_cons] at h1; exact h1
        have hD1 : DgX (mset ν 75 (t + e) (s : Int)) Z := hDν.cg (fun k h1 h2 => mset_cell (by omega))
        obtain ⟨c1, c2, c3, c4⟩ := hD1.off hs hZ
        have hK1 : KD t μ (mset (mset ν 75 (t + e) (s : Int)) (53 + s) 1 (((Z s).length : Int) - 1)) := KD.st (hK.tr ⟨fun k h1 h2 => mset_cell (by omega), fun j hj => mset_ne (Or.inr (by omega))⟩) (by omega) (by omega)
        refine g_if_eq (tgt := 24) hX dX1_reaches_15 (by decide) ⟨by omega, by omega⟩ (fun hc => absurd hc (by omega)) (fun _ => ?_)
        refine st_iinc_5_3 hX dX1_reaches_18 (by first | exact ck_i _ | exact ck_r _ _ | exact ck_n | exact ck_0) ?_
        refine g_goto (tgt := 2) hX dX1_reaches_21 (by decide) ?_
        refine ih (e + 1) _ _ (by omega) hK1 c1 (hOz.take hqn hs hZ) ⟨Z, s, r, Tk_cg e Y Z (fun j hj => by rw [mset_cell (by omega), mset_ne (Or.inr (by omega))]) hT, hs, by rw [mset_cell (by omega), mset_same], hZ, hr, rfl⟩ (hiff.trans (Dg_top hOz hqn hs hZ))
      · rw [hm']
        clear hm' μ'
        refine g_if_eq (tgt := 24) hX dX1_reaches_15 (by decide) ⟨by omega, by omega⟩ (fun _ => ?_) (fun hc => absurd hc (by omega))
        have fail : ∀ (ν : Mem), KD t μ ν → DgX ν Z → Tk (ν 75) t e Y Z → ¬ Dg n k (t + e) Z → G V E ν 55 [some (vr V 72), some (vi (t : Int)), some (vi (k : Int)), some (vi ((t + e : Nat) : Int)), none] [] := fun ν hK hDν hT hno => by
          refine g_iload_n hX dX1_reaches_55 rfl ?_
          refine g_iconst hX dX1_reaches_56 ?_
          refine g_isub hX dX1_reaches_57 ?_
          refine st_istore_5_4 hX dX1_reaches_58 (by first | exact ck_i _ | exact ck_r _ _ | exact ck_n | exact ck_0) ?_
          exact back e ν Z _ (by omega) hK hDν hT (fun h => hno (hiff.mp h))
        refine g_iload_n hX dX1_reaches_24 rfl ?_
        refine g_aload_n hX dX1_reaches_25 rfl ?_
        refine gf_X1_25 hX dX1_reaches_26 ?_
        rw [hnν]
        refine g_icmp_ge (tgt := 53) hX dX1_reaches_29 (by decide) ⟨by omega, by omega⟩ ⟨by omega, by omega⟩ (fun hc => absurd hc (by omega)) (fun _ => ?_)
        refine g_iload_n hX dX1_reaches_32 rfl ?_
        refine g_if_le (tgt := 55) hX dX1_reaches_33 (by decide) ⟨by omega, by omega⟩ (fun a1 => ?_) (fun a1 => ?_)
        · refine fail ν hK hDν hT (fun hg => ?_)
          obtain ⟨k', d', hk', -⟩ := (Dg_dig hOz hqn hs hZ hmr).mp hg
          omega
        refine g_aload_n hX dX1_reaches_36 rfl ?_
        refine g_v0I hX lk_X1_47 dX1_reaches_37 (c0 := 1) ok72 ⟨_, rfl, rfl⟩ (c_mustMove hI hDν) (by first | decide | omega) (by decide) rfl (Nat.le_of_ble_eq_true rfl) (fun z μ' hp => ?_)
        obtain ⟨rfl, hm⟩ := hp
        rw [hm]
        clear hm μ'
        have hmm : mm5 Z ≤ 20 := by
          rw [← mmK_5]
          exact mmK_le (fun s hs => (hDν s hs).1) 5 (by decide)
        refine g_iload_n hX dX1_reaches_40 rfl ?_
        refine g_icmp_gt (tgt := 55) hX dX1_reaches_41 (by decide) ⟨by omega, by omega⟩ ⟨by omega, by omega⟩ (fun a2 => ?_) (fun a2 => ?_)
        · refine fail ν hK hDν hT (fun ⟨f, hf⟩ => ?_)
          have := Sol_mm f k _ _ hf hOz
          omega
        obtain ⟨k', rfl⟩ : ∃ k', k = k' + 1 := ⟨k - 1, by omega⟩
        refine g_aload_n hX dX1_reaches_44 rfl ?_
        refine g_iload_n hX dX1_reaches_45 rfl ?_
        refine g_iload_n hX dX1_reaches_46 rfl ?_
        refine g_v2I hX lk_X1_59 dX1_reaches_47 (c0 := 1) ok72 ⟨_, rfl, rfl⟩ (c_digs hI (hE.symm ▸ ihR k' rfl) (by omega) hDν hOz hnν hqn hs hZ hmr) (by first | decide | omega) (by decide) rfl (Nat.le_of_ble_eq_true rfl) (fun z μ' hp => ?_)
        obtain ⟨hp1, hp2⟩ := hp
        have hK' : KD t μ μ' := hK.tr (hp1.lo (by omega))
        rcases hp2 with ⟨rfl, hg⟩ | ⟨rfl, hg, hDb⟩
        · refine g_if_eq (tgt := 55) hX dX1_reaches_50 (by decide) ⟨by omega, by omega⟩ (fun hc => absurd hc (by omega)) (fun _ => ?_)
          refine g_iconst hX dX1_reaches_53 ?_
          refine g_zret hX hR dX1_reaches_54 (Or.inr rfl) ⟨_, rfl, hK', Or.inl ⟨rfl, hiff.mpr hg⟩⟩
        · refine g_if_eq (tgt := 55) hX dX1_reaches_50 (by decide) ⟨by omega, by omega⟩ (fun _ => ?_) (fun hc => absurd hc (by omega))
          exact fail μ' hK' hDb (Tk_cg e Y Z (fun j hj => hp1.2 j hj) hT) hg
  have htn := hO.2.1
  refine g_iload_n hX dX1_reaches_0 rfl ?_
  refine st_istore_n_5_3 hX dX1_reaches_1 (by first | exact ck_i _ | exact ck_r _ _ | exact ck_n | exact ck_0) ?_
  exact main (n - t) 0 μ Y (by omega) KD.rf hD hO rfl Iff.rfl
theorem reach_all {lnch : Launch} {V : VX} (hI : InjV V) : ∀ k, k ≤ 20 → ReachC lnch V k := by
  intro k
  induction k with
  | zero => intro hk μ n t Y hD hO hn; exact c_reach hI (fun k' h => absurd h (by omega)) hk hD hO hn
  | succ k ih => intro hk μ n t Y hD hO hn; exact c_reach hI (fun k' h => by rw [show k' = k by omega]; exact ih (by omega)) hk hD hO hn
set_option maxHeartbeats 4000000 in
theorem c_fewm {lnch : Launch} {V : VX} (hI : InjV V) {μ : Mem} {n : Nat} {Y : Nat → List Int} (hD : DgX μ Y) (hO : OY n 0 Y) (hn : μ 72 3 = (n : Int)) (htot : tot5 Y ≤ 10) : Ct lnch yX1_fewestMoves cX1_fewestMoves 2 (some .int) 47 V [vr V 72] μ (pI (fun z μ' => (∃ k : Nat, z = (k : Int) ∧ LDg n 0 Y k) ∧ KD 0 μ μ')) := by
  refine Ct_of (by decide) hI (Nat.le_of_ble_eq_true rfl) (fun E hE hX hR => ?_)
  have hX : OkX V E RX1 cX1_fewestMoves 2 47 := hX
  show G V E μ 0 [some (vr V 72), none] []
  have hn6 := hO.1
  have h18 : Dg n 18 0 Y := by
    have := Dg_up (Dg_all n 0 Y (by omega) hO htot) (18 - 3 * n)
    rw [show 3 * n + (18 - 3 * n) = 18 by omega] at this
    exact this
  have loop : ∀ (d k : Nat) (ν : Mem), k + d = 18 → KD 0 μ ν → DgX ν Y → (∀ j, j < k → ¬ Dg n j 0 Y) → G V E ν 5 [some (vr V 72), some (vi (k : Int))] [] := by
    intro d
    induction d with
    | zero =>
      intro k ν hk hK hDν hno
      refine g_iload_n hX dX1_fewestMoves_5 rfl ?_
      refine g_bipush hX dX1_fewestMoves_6 rfl ?_
      refine g_icmp_ge (tgt := 26) hX dX1_fewestMoves_8 (by decide) ⟨by omega, by omega⟩ ⟨by omega, by omega⟩ (fun _ => ?_) (fun hc => absurd hc (by omega))
      refine g_iload_n hX dX1_fewestMoves_26 rfl ?_
      refine g_iret hX hR dX1_fewestMoves_27 ⟨_, rfl, ⟨k, rfl, by rw [show k = 18 by omega]; exact h18, hno⟩, hK⟩
    | succ d ih =>
      intro k ν hk hK hDν hno
      refine g_iload_n hX dX1_fewestMoves_5 rfl ?_
      refine g_bipush hX dX1_fewestMoves_6 rfl ?_
      refine g_icmp_ge (tgt := 26) hX dX1_fewestMoves_8 (by decide) ⟨by omega, by omega⟩ ⟨by omega, by omega⟩ (fun hc => absurd hc (by omega)) (fun _ => ?_)
      refine g_aload_n hX dX1_fewestMoves_11 rfl ?_
      refine g_iconst hX dX1_fewestMoves_12 ?_
      refine g_iload_n hX dX1_fewestMoves_13 rfl ?_
      refine g_v2I hX lk_X1_51 dX1_fewestMoves_14 (c0 := 1) ok72 ⟨_, rfl, rfl⟩ (reach_all (lnch := E.1.2.1) hI k (by omega) ν n 0 Y hDν hO (by rw [hK.1 72 (by omega) (by decide)]; exact hn)) (by first | decide | omega) (by decide) rfl (Nat.le_of_ble_eq_true rfl) (fun z μ' hp => ?_)
      obtain ⟨hp1, hp2⟩ := hp
      rcases hp2 with ⟨rfl, hg⟩ | ⟨rfl, hg, hDb⟩
      · refine g_if_ne (tgt := 26) hX dX1_fewestMoves_17 (by decide) ⟨by omega, by omega⟩ (fun _ => ?_) (fun hc => absurd hc (by omega))
        refine g_iload_n hX dX1_fewestMoves_26 rfl ?_
        refine g_iret hX hR dX1_fewestMoves_27 ⟨_, rfl, ⟨k, rfl, hg, hno⟩, hK.tr hp1⟩
      · refine g_if_ne (tgt := 26) hX dX1_fewestMoves_17 (by decide) ⟨by omega, by omega⟩ (fun hc => absurd hc (by omega)) (fun _ => ?_)
        refine st_iinc_2_1 hX dX1_fewestMoves_20 (by first | exact ck_i _ | exact ck_r _ _ | exact ck_n | exact ck_0) ?_
        refine g_goto (tgt := 5) hX dX1_fewestMoves_23 (by decide) ?_
        refine ih (k + 1) μ' (by omega) (hK.tr hp1) hDb (fun j hj => ?_)
        by_cases e : j = k
        · rw [e]; exact hg
        · exact hno j (by omega)
  refine g_aload_n hX dX1_fewestMoves_0 rfl ?_
  refine g_v0I hX lk_X1_47 dX1_fewestMoves_1 (c0 := 1) ok72 ⟨_, rfl, rfl⟩ (c_mustMove hI hD) (by first | decide | omega) (by decide) rfl (Nat.le_of_ble_eq_true rfl) (fun z μ' hp => ?_)
  obtain ⟨rfl, hm⟩ := hp
  rw [hm]
  clear hm μ'
  have hmm : mm5 Y ≤ 18 := by
    obtain ⟨f, hf⟩ := h18
    exact Sol_mm f 18 _ _ hf hO
  refine st_istore_n_2_1 hX dX1_fewestMoves_4 (by first | exact ck_i _ | exact ck_r _ _ | exact ck_n | exact ck_0) ?_
  exact loop (18 - mm5 Y) (mm5 Y) μ (by omega) KD.rf hD (fun j hj ⟨f, hf⟩ => by
    have := Sol_mm f j _ _ hf hO
    omega)
