/-! the reference's calls: stacks and the lorry -/
set_option maxHeartbeats 4000000 in
theorem c_isStack {lnch : Launch} {V : VX} (hI : InjV V) {μ : Mem} {s : Int} (hs : in32 s) : Ct lnch yX7_isStack cX7_isStack 1 (some .boolean) 2 V [vi s] μ (pI (fun z μ' => z = (if 0 ≤ s ∧ s < 5 then 1 else 0) ∧ μ' = μ)) := by
  refine Ct_of (by decide) hI (Nat.le_of_ble_eq_true rfl) (fun E hE hX hR => ?_)
  have hX : OkX V E RX7 cX7_isStack 1 2 := hX
  show G V E μ 0 [some (vi s)] []
  obtain ⟨hs1, hs2⟩ := hs
  refine g_iload_n hX dX7_isStack_0 rfl ?_
  refine g_i2l hX dX7_isStack_1 ⟨by omega, by omega⟩ ?_
  refine g_lconst hX dX7_isStack_2 (z := 0) rfl ?_
  refine g_ldc2 (z := 4) hX dX7_isStack_3 tw_683 ?_
  refine g_s3I hX lk_X7_96 dX7_isStack_6 (c_in hI ⟨by omega, by omega⟩ ⟨by decide, by decide⟩ ⟨by decide, by decide⟩) (by decide) (by decide) rfl (Nat.le_of_ble_eq_true rfl) (fun z μ' hp => ?_)
  obtain ⟨rfl, hm⟩ := hp
  rw [hm]
  clear hm μ'
  by_cases h : 0 ≤ s ∧ s < 5
  · rw [if_pos (by omega)]
    refine g_zret hX hR dX7_isStack_9 (Or.inr rfl) ⟨_, rfl, by rw [if_pos h], rfl⟩
  · rw [if_neg (by omega)]
    refine g_zret hX hR dX7_isStack_9 (Or.inl rfl) ⟨_, rfl, by rw [if_neg h], rfl⟩
def laysX (μ : Mem) (p s h : Nat) : Mem := mset (mset (mset (mset μ 90 (4 * s + h) p) 89 s ((h : Int) + 1)) 81 p 3) 82 p (s : Int)
theorem vw_lays {μ : Mem} {p s h : Nat} : vw (laysX μ p s h) = layM (vw μ) p s h := by
  unfold laysX
  simp (disch := omega) only [vw_in]
  rfl
theorem kp_lays {μ : Mem} {p s h : Nat} : KpX μ (laysX μ p s h) := by
  unfold laysX
  repeat first | exact KpX.rf | refine KpX_m ?_ (by omega)
set_option maxHeartbeats 4000000 in
theorem c_lays {lnch : Launch} {V : VX} (hI : InjV V) {μ : Mem} {p s h : Nat} (hs : s < 5) (hp : p < 40) (hh : μ 89 s = (h : Int)) (h4 : h < 4) : Ct lnch yX7_lays cX7_lays 3 none 1 V [vr V 76, vi (p : Int), vi (s : Int)] μ (pV (fun μ' => μ' = laysX μ p s h)) := by
  refine Ct_of (by decide) hI (Nat.le_of_ble_eq_true rfl) (fun E hE hX hR => ?_)
  have hX : OkX V E RX7 cX7_lays 3 1 := hX
  show G V E μ 0 [some (vr V 76), some (vi (p : Int)), some (vi (s : Int))] []
  refine g_aload_n hX dX7_lays_0 rfl ?_
  refine gf_X7_54 hX dX7_lays_1 ?_
  refine g_iconst hX dX7_lays_4 ?_
  refine g_iload_n hX dX7_lays_5 rfl ?_
  refine g_imul hX dX7_lays_6 ?_
  refine g_aload_n hX dX7_lays_7 rfl ?_
  refine gf_X7_51 hX dX7_lays_8 ?_
  refine g_iload_n hX dX7_lays_11 rfl ?_
  refine g_ialdN hX dX7_lays_12 (N := 5) rfl rfl (by omega) (by decide) ?_
  rw [hh]
  refine g_iadd hX dX7_lays_13 ?_
  refine g_iload_n hX dX7_lays_14 rfl ?_
  refine g_iastN (i := (4 * s + h)) hX dX7_lays_15 (N := 20) rfl (by omega) (by omega) (by decide) ?_
  refine g_aload_n hX dX7_lays_16 rfl ?_
  refine gf_X7_51 hX dX7_lays_17 ?_
  refine g_iload_n hX dX7_lays_20 rfl ?_
  refine g_dup2 hX dX7_lays_21 rfl rfl ?_
  refine g_ialdN hX dX7_lays_22 (N := 5) rfl rfl (by omega) (by decide) ?_
  simp (disch := omega) only [mset_ne, mset_same]; rw [hh]
  refine g_iconst hX dX7_lays_23 ?_
  refine g_iadd hX dX7_lays_24 ?_
  refine g_iastN hX dX7_lays_25 (N := 5) rfl rfl (by omega) (by decide) ?_
  refine g_aload_n hX dX7_lays_26 rfl ?_
  refine gf_X7_22 hX dX7_lays_27 ?_
  refine g_iload_n hX dX7_lays_30 rfl ?_
  refine g_iconst hX dX7_lays_31 ?_
  refine g_iastN hX dX7_lays_32 (N := 40) rfl rfl (by omega) (by decide) ?_
  refine g_aload_n hX dX7_lays_33 rfl ?_
  refine gf_X7_25 hX dX7_lays_34 ?_
  refine g_iload_n hX dX7_lays_37 rfl ?_
  refine g_iload_n hX dX7_lays_38 rfl ?_
  refine g_iastN hX dX7_lays_39 (N := 40) rfl rfl (by omega) (by decide) ?_
  refine g_vret hX hR dX7_lays_40 ⟨rfl, rfl⟩
set_option maxHeartbeats 4000000 in
theorem c_clears {lnch : Launch} {V : VX} (hI : InjV V) {μ : Mem} {s n : Nat} (hs : s < 5) (hsi : SI (vw μ) s n) : Ct lnch yX7_clears cX7_clears 3 none 1 V [vr V 76, vi (s : Int)] μ (pV (fun μ' => vw μ' = clrM s 4 (vw μ) ∧ KpX μ μ')) := by
  refine Ct_of (by decide) hI (Nat.le_of_ble_eq_true rfl) (fun E hE hX hR => ?_)
  have hX : OkX V E RX7 cX7_clears 3 1 := hX
  show G V E μ 0 [some (vr V 76), some (vi (s : Int)), none] []
  have loop : ∀ (f : Nat) (ν : Mem), vw ν 13 s ≤ (f : Int) → SI (vw ν) s n → clrM s f (vw ν) = clrM s 4 (vw μ) → KpX μ ν → G V E ν 0 [some (vr V 76), some (vi (s : Int)), none] [] := by
    intro f
    induction f with
    | zero =>
      intro ν hf hsi hc hk
      have h0 := hsi.2.2.1
      have e13 : ν 89 s = vw ν 13 s := rfl
      refine g_aload_n hX dX7_clears_0 rfl ?_
      refine gf_X7_51 hX dX7_clears_1 ?_
      refine g_iload_n hX dX7_clears_4 rfl ?_
      refine g_ialdN hX dX7_clears_5 (N := 5) rfl rfl (by omega) (by decide) ?_
      refine g_if_le (tgt := 87) hX dX7_clears_6 (by decide) ⟨by omega, by omega⟩ (fun _ => ?_) (fun hc => absurd hc (by omega))
      refine g_vret hX hR dX7_clears_87 ⟨rfl, hc, hk⟩
    | succ f ih =>
      intro ν hf hsi hc hk
      have h0 := hsi.2.2.1
      have h40 := hsi.2.1
      have e13 : ν 89 s = vw ν 13 s := rfl
      obtain ⟨h, hh⟩ : ∃ h : Nat, ν 89 s = (h : Int) := ⟨(vw ν 13 s).toNat, by omega⟩
      refine g_aload_n hX dX7_clears_0 rfl ?_
      refine gf_X7_51 hX dX7_clears_1 ?_
      refine g_iload_n hX dX7_clears_4 rfl ?_
      refine g_ialdN hX dX7_clears_5 (N := 5) rfl rfl (by omega) (by decide) ?_
      refine g_if_le (tgt := 87) hX dX7_clears_6 (by decide) ⟨by omega, by omega⟩ (fun h1 => ?_) (fun h1 => ?_)
      · refine g_vret hX hR dX7_clears_87 ⟨rfl, ?_, hk⟩
        rw [← hc]
        show vw ν = if 0 < vw ν 13 s ∧ vw ν 8 (topM (vw ν) s) = 1 then clrM s f (popM (vw ν) s) else vw ν
        rw [if_neg (by omega)]
      have ht := top_in hsi (by omega)
      have ht2 := ht.2
      have etop : ν 90 (4 * s + (h - 1)) = (topM (vw ν) s : Int) := by
        rw [ht.1, show (vw ν 13 s).toNat = h by omega]
        rfl
      have h01 := hsi.2.2.2.2 (topM (vw ν) s) (by omega)
      have e8 : ν 84 (topM (vw ν) s) = vw ν 8 (topM (vw ν) s) := rfl
      refine g_aload_n hX dX7_clears_9 rfl ?_
      refine gf_X7_31 hX dX7_clears_10 ?_
      refine g_aload_n hX dX7_clears_13 rfl ?_
      refine gf_X7_54 hX dX7_clears_14 ?_
      refine g_iconst hX dX7_clears_17 ?_
      refine g_iload_n hX dX7_clears_18 rfl ?_
      refine g_imul hX dX7_clears_19 ?_
      refine g_aload_n hX dX7_clears_20 rfl ?_
      refine gf_X7_51 hX dX7_clears_21 ?_
      refine g_iload_n hX dX7_clears_24 rfl ?_
      refine g_ialdN hX dX7_clears_25 (N := 5) rfl rfl (by omega) (by decide) ?_
      rw [hh]
      refine g_iadd hX dX7_clears_26 ?_
      refine g_iconst hX dX7_clears_27 ?_
      refine g_isub hX dX7_clears_28 ?_
      refine g_ialdN (i := (4 * s + (h - 1))) hX dX7_clears_29 (N := 20) rfl (by omega) (by omega) (by decide) ?_
      rw [etop]
      refine g_zaldN hX dX7_clears_30 rfl (by omega) ?_
      refine g_if_eq (tgt := 87) hX dX7_clears_31 (by decide) ⟨by omega, by omega⟩ (fun h2 => ?_) (fun h2 => ?_)
      · refine g_vret hX hR dX7_clears_87 ⟨rfl, ?_, hk⟩
        rw [← hc]
        show vw ν = if 0 < vw ν 13 s ∧ vw ν 8 (topM (vw ν) s) = 1 then clrM s f (popM (vw ν) s) else vw ν
        rw [if_neg (by omega)]
      refine g_aload_n hX dX7_clears_34 rfl ?_
      refine gf_X7_54 hX dX7_clears_35 ?_
      refine g_iconst hX dX7_clears_38 ?_
      refine g_iload_n hX dX7_clears_39 rfl ?_
      refine g_imul hX dX7_clears_40 ?_
      refine g_aload_n hX dX7_clears_41 rfl ?_
      refine gf_X7_51 hX dX7_clears_42 ?_
      refine g_iload_n hX dX7_clears_45 rfl ?_
      refine g_ialdN hX dX7_clears_46 (N := 5) rfl rfl (by omega) (by decide) ?_
      rw [hh]
      refine g_iadd hX dX7_clears_47 ?_
      refine g_iconst hX dX7_clears_48 ?_
      refine g_isub hX dX7_clears_49 ?_
      refine g_ialdN (i := (4 * s + (h - 1))) hX dX7_clears_50 (N := 20) rfl (by omega) (by omega) (by decide) ?_
      rw [etop]
      refine st_istore_n_3_2 hX dX7_clears_51 (by first | exact ck_i _ | exact ck_r _ _ | exact ck_n | exact ck_0) ?_
      refine g_aload_n hX dX7_clears_52 rfl ?_
      refine gf_X7_51 hX dX7_clears_53 ?_
      refine g_iload_n hX dX7_clears_56 rfl ?_
      refine g_dup2 hX dX7_clears_57 rfl rfl ?_
      refine g_ialdN hX dX7_clears_58 (N := 5) rfl rfl (by omega) (by decide) ?_
      rw [hh]
      refine g_iconst hX dX7_clears_59 ?_
      refine g_isub hX dX7_clears_60 ?_
      refine g_iastN hX dX7_clears_61 (N := 5) rfl rfl (by omega) (by decide) ?_
      refine g_aload_n hX dX7_clears_62 rfl ?_
      refine gf_X7_31 hX dX7_clears_63 ?_
      refine g_iload_n hX dX7_clears_66 rfl ?_
      refine g_iconst hX dX7_clears_67 ?_
      refine g_zastN hX dX7_clears_68 (by first | exact Or.inl rfl | exact Or.inr rfl | assumption) rfl (by omega) ?_
      refine g_aload_n hX dX7_clears_69 rfl ?_
      refine gf_X7_22 hX dX7_clears_70 ?_
      refine g_iload_n hX dX7_clears_73 rfl ?_
      refine g_iconst hX dX7_clears_74 ?_
      refine g_iastN hX dX7_clears_75 (N := 40) rfl rfl (by omega) (by decide) ?_
      refine g_aload_n hX dX7_clears_76 rfl ?_
      refine gf_X7_25 hX dX7_clears_77 ?_
      refine g_iload_n hX dX7_clears_80 rfl ?_
      refine g_bipush hX dX7_clears_81 rfl ?_
      refine g_iastN hX dX7_clears_83 (N := 40) rfl rfl (by omega) (by decide) ?_
      refine g_goto (tgt := 0) hX dX7_clears_84 (by decide) ?_
      refine fg_3_2 ?_
      have ev : vw (mset (mset (mset (mset ν 89 s ((h : Int) - 1)) 84 (topM (vw ν) s) 0) 81 (topM (vw ν) s) 5) 82 (topM (vw ν) s) (-4)) = popM (vw ν) s := by
        simp (disch := omega) only [vw_in]
        unfold popM
        rw [← e13, hh]
      refine ih _ ?_ ?_ ?_ ?_
      · rw [ev]; unfold popM; simp (disch := omega) only [mset_ne, mset_same]; omega
      · rw [ev]; exact SI_pop hsi (by omega)
      · rw [ev, ← hc]
        show _ = if 0 < vw ν 13 s ∧ vw ν 8 (topM (vw ν) s) = 1 then clrM s f (popM (vw ν) s) else vw ν
        rw [if_pos (by omega)]
      · exact KpX_m (KpX_m (KpX_m (KpX_m hk (by omega)) (by omega)) (by omega)) (by omega)
  exact loop 4 μ hsi.2.2.1.2 hsi rfl KpX.rf
set_option maxHeartbeats 4000000 in
theorem m_stack {lnch : Launch} {V : VX} (hI : InjV V) {μ : Mem} {c : Nat} {p s : Int} (hM : IM c (vw μ)) (hp : in32 p) (hs : in32 s) : Ct lnch yX7_stack cX7_stack 3 (some .int) 3 V [vr V 76, vi p, vi s] μ (pI (MP μ (spStack (vw μ) p s))) := by
  refine Ct_of (by decide) hI (Nat.le_of_ble_eq_true rfl) (fun E hE hX hR => ?_)
  have hX : OkX V E RX7 cX7_stack 3 3 := hX
  show G V E μ 0 [some (vr V 76), some (vi p), some (vi s)] []
  obtain ⟨N, hN40, hN, hmN⟩ := vw_n hM
  unfold spStack at hR
  have no : ¬ ((0 ≤ p ∧ p < vw μ 0 0) ∧ 0 ≤ s ∧ s < 5) → G V E μ 15 [some (vr V 76), some (vi p), some (vi s)] [] := fun h => by
    rw [if_neg h] at hR
    refine g_iconst hX dX7_stack_15 ?_
    refine g_iret hX hR dX7_stack_16 ⟨_, rfl, rfl, rfl, KpX.rf⟩
  refine g_aload_n hX dX7_stack_0 rfl ?_
  refine g_iload_n hX dX7_stack_1 rfl ?_
  refine g_v1I hX lk_X7_114 dX7_stack_2 (c0 := 7) ok76 ⟨_, rfl, rfl⟩ (c_isPart hI hN hN40 hp) (by first | decide | omega) (by decide) rfl (Nat.le_of_ble_eq_true rfl) (fun z μ' hp => ?_)
  obtain ⟨rfl, hm⟩ := hp
  rw [hm]
  clear hm μ'
  by_cases h1 : 0 ≤ p ∧ p < (N : Int)
  rotate_left
  · rw [if_neg h1]
    refine g_if_eq (tgt := 15) hX dX7_stack_5 (by decide) ⟨by omega, by omega⟩ (fun _ => ?_) (fun hc => absurd hc (by omega))
    exact no (by omega)
  rw [if_pos h1]
  refine g_if_eq (tgt := 15) hX dX7_stack_5 (by decide) ⟨by omega, by omega⟩ (fun hc => absurd hc (by omega)) (fun _ => ?_)
  refine g_iload_n hX dX7_stack_8 rfl ?_
  refine g_s1I hX lk_X7_148 dX7_stack_9 (c_isStack hI hs) (by decide) (by decide) rfl (Nat.le_of_ble_eq_true rfl) (fun z μ' hp => ?_)
  obtain ⟨rfl, hm⟩ := hp
  rw [hm]
  clear hm μ'
  by_cases h2 : 0 ≤ s ∧ s < 5
  rotate_left
  · rw [if_neg h2]
    refine g_if_ne (tgt := 17) hX dX7_stack_12 (by decide) ⟨by omega, by omega⟩ (fun hc => absurd hc (by omega)) (fun _ => ?_)
    exact no (by omega)
  rw [if_pos h2]
  rw [if_pos (by omega)] at hR
  obtain ⟨q, rfl⟩ : ∃ q : Nat, p = (q : Int) := ⟨p.toNat, by omega⟩
  obtain ⟨t, rfl⟩ : ∃ t : Nat, s = (t : Int) := ⟨s.toNat, by omega⟩
  rw [show ((q : Int)).toNat = q from rfl, show ((t : Int)).toNat = t from rfl] at *
  have hy := (hM.2.2.2.1.1 t (by omega)).1
  have hw := IM_p hM (i := q) (by omega)
  have e5 : vw μ 5 q = μ 81 q := rfl
  have e13 : vw μ 13 t = μ 89 t := rfl
  obtain ⟨h, hh⟩ : ∃ h : Nat, μ 89 t = (h : Int) := ⟨(μ 89 t).toNat, by omega⟩
  refine g_if_ne (tgt := 17) hX dX7_stack_12 (by decide) ⟨by omega, by omega⟩ (fun _ => ?_) (fun hc => absurd hc (by omega))
  refine g_aload_n hX dX7_stack_17 rfl ?_
  refine gf_X7_22 hX dX7_stack_18 ?_
  refine g_iload_n hX dX7_stack_21 rfl ?_
  refine g_ialdN hX dX7_stack_22 (N := 40) rfl rfl (by omega) (by decide) ?_
  refine g_iconst hX dX7_stack_23 ?_
  refine g_icmp_eq (tgt := 30) hX dX7_stack_24 (by decide) ⟨by omega, by omega⟩ ⟨by omega, by omega⟩ (fun h3 => ?_) (fun h3 => ?_)
  rotate_left
  · rw [if_neg (show ¬ vw μ 5 q = 2 from h3)] at hR
    refine g_bipush hX dX7_stack_27 rfl ?_
    refine g_iret hX hR dX7_stack_29 ⟨_, rfl, rfl, rfl, KpX.rf⟩
  rw [if_pos (show vw μ 5 q = 2 from h3)] at hR
  refine g_aload_n hX dX7_stack_30 rfl ?_
  refine gf_X7_51 hX dX7_stack_31 ?_
  refine g_iload_n hX dX7_stack_34 rfl ?_
  refine g_ialdN hX dX7_stack_35 (N := 5) rfl rfl (by omega) (by decide) ?_
  refine g_iconst hX dX7_stack_36 ?_
  refine g_icmp_ne (tgt := 43) hX dX7_stack_37 (by decide) ⟨by omega, by omega⟩ ⟨by omega, by omega⟩ (fun h4 => ?_) (fun h4 => ?_)
  rotate_left
  · rw [if_neg (by omega)] at hR
    refine g_bipush hX dX7_stack_40 rfl ?_
    refine g_iret hX hR dX7_stack_42 ⟨_, rfl, rfl, rfl, KpX.rf⟩
  rw [if_pos (by omega)] at hR
  refine g_aload_n hX dX7_stack_43 rfl ?_
  refine g_iload_n hX dX7_stack_44 rfl ?_
  refine g_iload_n hX dX7_stack_45 rfl ?_
  refine g_v2V hX lk_X7_151 dX7_stack_46 (c0 := 7) ok76 ⟨_, rfl, rfl⟩ (c_lays (h := h) hI (by omega) (by omega) hh (by omega)) (by first | decide | omega) (by decide) rfl (Nat.le_of_ble_eq_true rfl) (fun μ' hp => ?_)
  rw [hp]
  clear hp μ'
  refine g_aload_n hX dX7_stack_49 rfl ?_
  refine gf_X7_51 hX dX7_stack_50 ?_
  refine g_iload_n hX dX7_stack_53 rfl ?_
  refine g_ialdN hX dX7_stack_54 (N := 5) rfl rfl (by omega) (by decide) ?_
  refine g_iret hX hR dX7_stack_55 ⟨_, rfl, ?_, ?_, kp_lays⟩
  · show laysX μ q t h 89 t = μ 89 t + 1
    unfold laysX
    simp (disch := omega) only [mset_ne, mset_same]
    omega
  · rw [show (vw μ 13 t).toNat = h by omega]
    exact vw_lays
set_option maxHeartbeats 4000000 in
theorem m_move {lnch : Launch} {V : VX} (hI : InjV V) {μ : Mem} {c : Nat} {f t : Int} (hM : IM c (vw μ)) (hf : in32 f) (ht : in32 t) : Ct lnch yX7_move cX7_move 4 (some .int) 3 V [vr V 76, vi f, vi t] μ (pI (MP μ (spMove (vw μ) f t))) := by
  refine Ct_of (by decide) hI (Nat.le_of_ble_eq_true rfl) (fun E hE hX hR => ?_)
  have hX : OkX V E RX7 cX7_move 4 3 := hX
  show G V E μ 0 [some (vr V 76), some (vi f), some (vi t), none] []
  obtain ⟨N, hN40, hN, hmN⟩ := vw_n hM
  unfold spMove at hR
  have no : ¬ ((0 ≤ f ∧ f < 5) ∧ (0 ≤ t ∧ t < 5) ∧ f ≠ t) → G V E μ 19 [some (vr V 76), some (vi f), some (vi t), none] [] := fun h => by
    rw [if_neg h] at hR
    refine g_iconst hX dX7_move_19 ?_
    refine g_iret hX hR dX7_move_20 ⟨_, rfl, rfl, rfl, KpX.rf⟩
  refine g_iload_n hX dX7_move_0 rfl ?_
  refine g_s1I hX lk_X7_148 dX7_move_1 (c_isStack hI hf) (by decide) (by decide) rfl (Nat.le_of_ble_eq_true rfl) (fun z μ' hp => ?_)
  obtain ⟨rfl, hm⟩ := hp
  rw [hm]
  clear hm μ'
  by_cases h1 : 0 ≤ f ∧ f < 5
  rotate_left
  · rw [if_neg h1]
    refine g_if_eq (tgt := 19) hX dX7_move_4 (by decide) ⟨by omega, by omega⟩ (fun _ => ?_) (fun hc => absurd hc (by omega))
    exact no (by omega)
  rw [if_pos h1]
  refine g_if_eq (tgt := 19) hX dX7_move_4 (by decide) ⟨by omega, by omega⟩ (fun hc => absurd hc (by omega)) (fun _ => ?_)
  refine g_iload_n hX dX7_move_7 rfl ?_
  refine g_s1I hX lk_X7_148 dX7_move_8 (c_isStack hI ht) (by decide) (by decide) rfl (Nat.le_of_ble_eq_true rfl) (fun z μ' hp => ?_)
  obtain ⟨rfl, hm⟩ := hp
  rw [hm]
  clear hm μ'
  by_cases h2 : 0 ≤ t ∧ t < 5
  rotate_left
  · rw [if_neg h2]
    refine g_if_eq (tgt := 19) hX dX7_move_11 (by decide) ⟨by omega, by omega⟩ (fun _ => ?_) (fun hc => absurd hc (by omega))
    exact no (by omega)
  rw [if_pos h2]
  refine g_if_eq (tgt := 19) hX dX7_move_11 (by decide) ⟨by omega, by omega⟩ (fun hc => absurd hc (by omega)) (fun _ => ?_)
  obtain ⟨u, rfl⟩ : ∃ u : Nat, f = (u : Int) := ⟨f.toNat, by omega⟩
  obtain ⟨s, rfl⟩ : ∃ s : Nat, t = (s : Int) := ⟨t.toNat, by omega⟩
  rw [show ((u : Int)).toNat = u from rfl, show ((s : Int)).toNat = s from rfl] at *
  refine g_iload_n hX dX7_move_14 rfl ?_
  refine g_iload_n hX dX7_move_15 rfl ?_
  refine g_icmp_ne (tgt := 21) hX dX7_move_16 (by decide) ⟨by omega, by omega⟩ ⟨by omega, by omega⟩ (fun h3 => ?_) (fun h3 => ?_)
  rotate_left
  · exact no (by omega)
  rw [if_pos ⟨h1, h2, h3⟩] at hR
  have hyu := (hM.2.2.2.1.1 u (by omega)).1
  have hys := (hM.2.2.2.1.1 s (by omega)).1
  have hsi := SI_of hM (s := u) (by omega) hmN
  have eu : vw μ 13 u = μ 89 u := rfl
  have es : vw μ 13 s = μ 89 s := rfl
  obtain ⟨h, hh⟩ : ∃ h : Nat, μ 89 u = (h : Int) := ⟨(μ 89 u).toNat, by omega⟩
  obtain ⟨g, hg⟩ : ∃ g : Nat, μ 89 s = (g : Int) := ⟨(μ 89 s).toNat, by omega⟩
  refine g_aload_n hX dX7_move_21 rfl ?_
  refine gf_X7_51 hX dX7_move_22 ?_
  refine g_iload_n hX dX7_move_25 rfl ?_
  refine g_ialdN hX dX7_move_26 (N := 5) rfl rfl (by omega) (by decide) ?_
  refine g_if_ne (tgt := 33) hX dX7_move_27 (by decide) ⟨by omega, by omega⟩ (fun h4 => ?_) (fun h4 => ?_)
  rotate_left
  · rw [if_pos (by omega)] at hR
    refine g_bipush hX dX7_move_30 rfl ?_
    refine g_iret hX hR dX7_move_32 ⟨_, rfl, rfl, rfl, KpX.rf⟩
  rw [if_neg (by omega)] at hR
  refine g_aload_n hX dX7_move_33 rfl ?_
  refine gf_X7_51 hX dX7_move_34 ?_
  refine g_iload_n hX dX7_move_37 rfl ?_
  refine g_ialdN hX dX7_move_38 (N := 5) rfl rfl (by omega) (by decide) ?_
  refine g_iconst hX dX7_move_39 ?_
  refine g_icmp_ne (tgt := 46) hX dX7_move_40 (by decide) ⟨by omega, by omega⟩ ⟨by omega, by omega⟩ (fun h5 => ?_) (fun h5 => ?_)
  rotate_left
  · rw [if_pos (by omega)] at hR
    refine g_bipush hX dX7_move_43 rfl ?_
    refine g_iret hX hR dX7_move_45 ⟨_, rfl, rfl, rfl, KpX.rf⟩
  rw [if_neg (by omega)] at hR
  have ht := top_in hsi (by omega)
  have ht2 := ht.2
  have etop : μ 90 (4 * u + (h - 1)) = (topM (vw μ) u : Int) := by
    rw [ht.1, show (vw μ 13 u).toNat = h by omega]
    rfl
  refine g_aload_n hX dX7_move_46 rfl ?_
  refine gf_X7_54 hX dX7_move_47 ?_
  refine g_iconst hX dX7_move_50 ?_
  refine g_iload_n hX dX7_move_51 rfl ?_
  refine g_imul hX dX7_move_52 ?_
  refine g_aload_n hX dX7_move_53 rfl ?_
  refine gf_X7_51 hX dX7_move_54 ?_
  refine g_iload_n hX dX7_move_57 rfl ?_
  refine g_ialdN hX dX7_move_58 (N := 5) rfl rfl (by omega) (by decide) ?_
  rw [hh]
  refine g_iadd hX dX7_move_59 ?_
  refine g_iconst hX dX7_move_60 ?_
  refine g_isub hX dX7_move_61 ?_
  refine g_ialdN (i := (4 * u + (h - 1))) hX dX7_move_62 (N := 20) rfl (by omega) (by omega) (by decide) ?_
  rw [etop]
  refine st_istore_n_4_3 hX dX7_move_63 (by first | exact ck_i _ | exact ck_r _ _ | exact ck_n | exact ck_0) ?_
  refine g_aload_n hX dX7_move_64 rfl ?_
  refine gf_X7_51 hX dX7_move_65 ?_
  refine g_iload_n hX dX7_move_68 rfl ?_
  refine g_dup2 hX dX7_move_69 rfl rfl ?_
  refine g_ialdN hX dX7_move_70 (N := 5) rfl rfl (by omega) (by decide) ?_
  rw [hh]
  refine g_iconst hX dX7_move_71 ?_
  refine g_isub hX dX7_move_72 ?_
  refine g_iastN hX dX7_move_73 (N := 5) rfl rfl (by omega) (by decide) ?_
  refine g_aload_n hX dX7_move_74 rfl ?_
  refine g_iload_n hX dX7_move_75 rfl ?_
  refine g_iload_n hX dX7_move_76 rfl ?_
  refine g_v2V hX lk_X7_151 dX7_move_77 (c0 := 7) ok76 ⟨_, rfl, rfl⟩ (c_lays (h := g) hI (by omega) (by omega) (by rw [mset_ne (Or.inr (by omega))]; exact hg) (by omega)) (by first | decide | omega) (by decide) rfl (Nat.le_of_ble_eq_true rfl) (fun μ' hp => ?_)
  rw [hp]
  clear hp μ'
  have ev : vw (laysX (mset μ 89 u ((h : Int) - 1)) (topM (vw μ) u) s g) = layM (mset (vw μ) 13 u (vw μ 13 u - 1)) (topM (vw μ) u) s g := by
    rw [vw_lays, vw_in (by omega), eu, hh]
  have s2 : SI (vw (laysX (mset μ 89 u ((h : Int) - 1)) (topM (vw μ) u) s g)) u N := by
    rw [ev]
    obtain ⟨a1, a2, a3, a4, a5⟩ := hsi
    unfold layM
    refine ⟨by simp (disch := omega) only [mset_ne]; exact a1, a2, by simp (disch := omega) only [mset_ne, mset_same]; omega, fun k hk => ?_, fun i hi => by simp (disch := omega) only [mset_ne]; exact a5 i hi⟩
    simp (disch := omega) only [mset_ne, mset_same] at hk ⊢
    rw [mset_ne (Or.inr (by omega)), mset_ne (Or.inl (by decide))]
    exact a4 k (by omega)
  refine g_aload_n hX dX7_move_80 rfl ?_
  refine g_iload_n hX dX7_move_81 rfl ?_
  refine g_v1V hX lk_X7_155 dX7_move_82 (c0 := 7) ok76 ⟨_, rfl, rfl⟩ (c_clears hI (by omega) s2) (by first | decide | omega) (by decide) rfl (Nat.le_of_ble_eq_true rfl) (fun μ' hp => ?_)
  obtain ⟨hp1, hp2⟩ := hp
  refine g_iload_n hX dX7_move_85 rfl ?_
  refine g_iret hX hR dX7_move_86 ⟨_, rfl, rfl, ?_, ((KpX.st (by omega)).tr kp_lays).tr hp2⟩
  rw [hp1, ev]
  show _ = clrM u 4 (layM (mset (vw μ) 13 u (vw μ 13 u - 1)) (topM (vw μ) u) s (vw μ 13 s).toNat)
  rw [show (vw μ 13 s).toNat = g by omega]
set_option maxHeartbeats 4000000 in
theorem c_heavy {lnch : Launch} {V : VX} (hI : InjV V) {μ : Mem} {h n : Nat} (hh : μ 76 17 = (h : Int)) (h4 : h ≤ 4) (n40 : n ≤ 40) (hl : ∀ k, k < h → 0 ≤ μ 91 k ∧ μ 91 k < (n : Int)) : Ct lnch yX7_heavy cX7_heavy 3 (some .int) 1 V [vr V 76] μ (pI (fun z μ' => z = heavyK (vw μ) h ∧ μ' = μ)) := by
  refine Ct_of (by decide) hI (Nat.le_of_ble_eq_true rfl) (fun E hE hX hR => ?_)
  have hX : OkX V E RX7 cX7_heavy 3 1 := hX
  show G V E μ 0 [some (vr V 76), none, none] []
  have loop : ∀ (d k : Nat), k + d = h → G V E μ 4 [some (vr V 76), some (vi (heavyK (vw μ) k)), some (vi (k : Int))] [] := by
    intro d
    induction d with
    | zero =>
      intro k hk
      refine g_iload_n hX dX7_heavy_4 rfl ?_
      refine g_aload_n hX dX7_heavy_5 rfl ?_
      refine gf_X7_185 hX dX7_heavy_6 ?_
      refine g_icmp_ge (tgt := 32) hX dX7_heavy_9 (by decide) ⟨by omega, by omega⟩ ⟨by omega, by omega⟩ (fun _ => ?_) (fun hc => absurd hc (by omega))
      refine g_iload_n hX dX7_heavy_32 rfl ?_
      refine g_iret hX hR dX7_heavy_33 ⟨_, rfl, by rw [show h = k by omega], rfl⟩
    | succ d ih =>
      intro k hk
      have hlk := hl k (by omega)
      refine g_iload_n hX dX7_heavy_4 rfl ?_
      refine g_aload_n hX dX7_heavy_5 rfl ?_
      refine gf_X7_185 hX dX7_heavy_6 ?_
      refine g_icmp_ge (tgt := 32) hX dX7_heavy_9 (by decide) ⟨by omega, by omega⟩ ⟨by omega, by omega⟩ (fun hc => absurd hc (by omega)) (fun _ => ?_)
      refine g_iload_n hX dX7_heavy_12 rfl ?_
      refine g_aload_n hX dX7_heavy_13 rfl ?_
      refine gf_X7_16 hX dX7_heavy_14 ?_
      refine g_aload_n hX dX7_heavy_17 rfl ?_
      refine gf_X7_57 hX dX7_heavy_18 ?_
      refine g_iload_n hX dX7_heavy_21 rfl ?_
      refine g_ialdN hX dX7_heavy_22 (N := 4) rfl rfl (by omega) (by decide) ?_
      refine g_ialdN (i := (μ 91 k).toNat) hX dX7_heavy_23 (N := 40) rfl (by omega) (by omega) (by decide) ?_
      refine g_iadd hX dX7_heavy_24 ?_
      refine st_istore_n_3_1 hX dX7_heavy_25 (by first | exact ck_i _ | exact ck_r _ _ | exact ck_n | exact ck_0) ?_
      refine st_iinc_3_2 hX dX7_heavy_26 (by first | exact ck_i _ | exact ck_r _ _ | exact ck_n | exact ck_0) ?_
      refine g_goto (tgt := 4) hX dX7_heavy_29 (by decide) ?_
      exact ih (k + 1) (by omega)
  refine g_iconst hX dX7_heavy_0 ?_
  refine st_istore_n_3_1 hX dX7_heavy_1 (by first | exact ck_i _ | exact ck_r _ _ | exact ck_n | exact ck_0) ?_
  refine g_iconst hX dX7_heavy_2 ?_
  refine st_istore_n_3_2 hX dX7_heavy_3 (by first | exact ck_i _ | exact ck_r _ _ | exact ck_n | exact ck_0) ?_
  exact loop h 0 (by omega)
set_option maxHeartbeats 4000000 in
theorem c_front {lnch : Launch} {V : VX} (hI : InjV V) {μ : Mem} {h n : Nat} (hh : μ 76 17 = (h : Int)) (h4 : h ≤ 4) (n40 : n ≤ 40) (hl : ∀ k, k < h → 0 ≤ μ 91 k ∧ μ 91 k < (n : Int)) : Ct lnch yX7_front cX7_front 3 (some .int) 1 V [vr V 76] μ (pI (fun z μ' => z = frontK (vw μ) h ∧ μ' = μ)) := by
  refine Ct_of (by decide) hI (Nat.le_of_ble_eq_true rfl) (fun E hE hX hR => ?_)
  have hX : OkX V E RX7 cX7_front 3 1 := hX
  show G V E μ 0 [some (vr V 76), none, none] []
  have loop : ∀ (d k : Nat), k + d = h → G V E μ 4 [some (vr V 76), some (vi (frontK (vw μ) k)), some (vi (k : Int))] [] := by
    intro d
    induction d with
    | zero =>
      intro k hk
      refine g_iload_n hX dX7_front_4 rfl ?_
      refine g_aload_n hX dX7_front_5 rfl ?_
      refine gf_X7_185 hX dX7_front_6 ?_
      refine g_icmp_ge (tgt := 39) hX dX7_front_9 (by decide) ⟨by omega, by omega⟩ ⟨by omega, by omega⟩ (fun _ => ?_) (fun hc => absurd hc (by omega))
      refine g_iload_n hX dX7_front_39 rfl ?_
      refine g_iret hX hR dX7_front_40 ⟨_, rfl, by rw [show h = k by omega], rfl⟩
    | succ d ih =>
      intro k hk
      have hlk := hl k (by omega)
      refine g_iload_n hX dX7_front_4 rfl ?_
      refine g_aload_n hX dX7_front_5 rfl ?_
      refine gf_X7_185 hX dX7_front_6 ?_
      refine g_icmp_ge (tgt := 39) hX dX7_front_9 (by decide) ⟨by omega, by omega⟩ ⟨by omega, by omega⟩ (fun hc => absurd hc (by omega)) (fun _ => ?_)
      refine g_iload_n hX dX7_front_12 rfl ?_
      refine g_aload_n hX dX7_front_13 rfl ?_
      refine gf_X7_16 hX dX7_front_14 ?_
      refine g_aload_n hX dX7_front_17 rfl ?_
      refine gf_X7_57 hX dX7_front_18 ?_
      refine g_iload_n hX dX7_front_21 rfl ?_
      refine g_ialdN hX dX7_front_22 (N := 4) rfl rfl (by omega) (by decide) ?_
      refine g_ialdN (i := (μ 91 k).toNat) hX dX7_front_23 (N := 40) rfl (by omega) (by omega) (by decide) ?_
      refine g_bipush hX dX7_front_24 rfl ?_
      refine g_iconst hX dX7_front_26 ?_
      refine g_iload_n hX dX7_front_27 rfl ?_
      refine g_imul hX dX7_front_28 ?_
      refine g_isub hX dX7_front_29 ?_
      refine g_imul hX dX7_front_30 ?_
      refine g_iadd hX dX7_front_31 ?_
      refine st_istore_n_3_1 hX dX7_front_32 (by first | exact ck_i _ | exact ck_r _ _ | exact ck_n | exact ck_0) ?_
      refine st_iinc_3_2 hX dX7_front_33 (by first | exact ck_i _ | exact ck_r _ _ | exact ck_n | exact ck_0) ?_
      refine g_goto (tgt := 4) hX dX7_front_36 (by decide) ?_
      exact ih (k + 1) (by omega)
  refine g_iconst hX dX7_front_0 ?_
  refine st_istore_n_3_1 hX dX7_front_1 (by first | exact ck_i _ | exact ck_r _ _ | exact ck_n | exact ck_0) ?_
  refine g_iconst hX dX7_front_2 ?_
  refine st_istore_n_3_2 hX dX7_front_3 (by first | exact ck_i _ | exact ck_r _ _ | exact ck_n | exact ck_0) ?_
  exact loop h 0 (by omega)
set_option maxHeartbeats 4000000 in
theorem c_rear {lnch : Launch} {V : VX} (hI : InjV V) {μ : Mem} {h n : Nat} (hh : μ 76 17 = (h : Int)) (h4 : h ≤ 4) (n40 : n ≤ 40) (hl : ∀ k, k < h → 0 ≤ μ 91 k ∧ μ 91 k < (n : Int)) : Ct lnch yX7_rear cX7_rear 3 (some .int) 1 V [vr V 76] μ (pI (fun z μ' => z = rearK (vw μ) h ∧ μ' = μ)) := by
  refine Ct_of (by decide) hI (Nat.le_of_ble_eq_true rfl) (fun E hE hX hR => ?_)
  have hX : OkX V E RX7 cX7_rear 3 1 := hX
  show G V E μ 0 [some (vr V 76), none, none] []
  have loop : ∀ (d k : Nat), k + d = h → G V E μ 4 [some (vr V 76), some (vi (rearK (vw μ) k)), some (vi (k : Int))] [] := by
    intro d
    induction d with
    | zero =>
      intro k hk
      refine g_iload_n hX dX7_rear_4 rfl ?_
      refine g_aload_n hX dX7_rear_5 rfl ?_
      refine gf_X7_185 hX dX7_rear_6 ?_
      refine g_icmp_ge (tgt := 38) hX dX7_rear_9 (by decide) ⟨by omega, by omega⟩ ⟨by omega, by omega⟩ (fun _ => ?_) (fun hc => absurd hc (by omega))
      refine g_iload_n hX dX7_rear_38 rfl ?_
      refine g_iret hX hR dX7_rear_39 ⟨_, rfl, by rw [show h = k by omega], rfl⟩
    | succ d ih =>
      intro k hk
      have hlk := hl k (by omega)
      refine g_iload_n hX dX7_rear_4 rfl ?_
      refine g_aload_n hX dX7_rear_5 rfl ?_
      refine gf_X7_185 hX dX7_rear_6 ?_
      refine g_icmp_ge (tgt := 38) hX dX7_rear_9 (by decide) ⟨by omega, by omega⟩ ⟨by omega, by omega⟩ (fun hc => absurd hc (by omega)) (fun _ => ?_)
      refine g_iload_n hX dX7_rear_12 rfl ?_
      refine g_aload_n hX dX7_rear_13 rfl ?_
      refine gf_X7_16 hX dX7_rear_14 ?_
      refine g_aload_n hX dX7_rear_17 rfl ?_
      refine gf_X7_57 hX dX7_rear_18 ?_
      refine g_iload_n hX dX7_rear_21 rfl ?_
      refine g_ialdN hX dX7_rear_22 (N := 4) rfl rfl (by omega) (by decide) ?_
      refine g_ialdN (i := (μ 91 k).toNat) hX dX7_rear_23 (N := 40) rfl (by omega) (by omega) (by decide) ?_
      refine g_iconst hX dX7_rear_24 ?_
      refine g_iload_n hX dX7_rear_25 rfl ?_
      refine g_imul hX dX7_rear_26 ?_
      refine g_iconst hX dX7_rear_27 ?_
      refine g_iadd hX dX7_rear_28 ?_
      refine g_imul hX dX7_rear_29 ?_
      refine g_iadd hX dX7_rear_30 ?_
      refine st_istore_n_3_1 hX dX7_rear_31 (by first | exact ck_i _ | exact ck_r _ _ | exact ck_n | exact ck_0) ?_
      refine st_iinc_3_2 hX dX7_rear_32 (by first | exact ck_i _ | exact ck_r _ _ | exact ck_n | exact ck_0) ?_
      refine g_goto (tgt := 4) hX dX7_rear_35 (by decide) ?_
      exact ih (k + 1) (by omega)
  refine g_iconst hX dX7_rear_0 ?_
  refine st_istore_n_3_1 hX dX7_rear_1 (by first | exact ck_i _ | exact ck_r _ _ | exact ck_n | exact ck_0) ?_
  refine g_iconst hX dX7_rear_2 ?_
  refine st_istore_n_3_2 hX dX7_rear_3 (by first | exact ck_i _ | exact ck_r _ _ | exact ck_n | exact ck_0) ?_
  exact loop h 0 (by omega)
