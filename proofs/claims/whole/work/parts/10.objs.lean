/-! the small objects: piles, parts, beds, the lorry -/
theorem mset_ne {μ : Mem} {k j k' j' : Nat} {v : Int} (h : k' ≠ k ∨ j' ≠ j) : mset μ k j v k' j' = μ k' j' := by
  unfold mset
  rw [if_neg]
  intro q
  rcases h with h | h
  · exact h q.1
  · exact h q.2
theorem mset_same {μ : Mem} {k j : Nat} {v : Int} : mset μ k j v k j = v := by unfold mset; rw [if_pos ⟨rfl, rfl⟩]
set_option maxHeartbeats 4000000 in
theorem c_hasRoom {lnch : Launch} {V : VX} (hI : InjV V) {μ : Mem} {k h : Nat} (hk : okd k = 5) (hh : μ k 1 = (h : Int)) (h4 : h ≤ 4) : Ct lnch yX5_hasRoom cX5_hasRoom 1 (some .boolean) 1 V [vr V k] μ (pI (fun z μ' => z = (if h < 4 then 1 else 0) ∧ μ' = μ)) := by
  refine Ct_of (by decide) hI (Nat.le_of_ble_eq_true rfl) (fun E hE hX hR => ?_)
  have hX : OkX V E RX5 cX5_hasRoom 1 1 := hX
  show G V E μ 0 [some (vr V k)] []
  refine g_aload_n hX dX5_hasRoom_0 rfl ?_
  refine gf_X5_15 hX dX5_hasRoom_1 (by first | assumption | exact okd_part (by omega) | exact okd_bed (by omega) | exact okd_pile (by omega) | exact okd_dpile (by omega)) ?_
  refine g_aload_n hX dX5_hasRoom_4 rfl ?_
  refine gf_X5_9 hX dX5_hasRoom_5 (by first | assumption | exact okd_part (by omega) | exact okd_bed (by omega) | exact okd_pile (by omega) | exact okd_dpile (by omega)) ?_
  refine g_alen hX dX5_hasRoom_8 (N := 4) (Or.inl ⟨(alen5 (by first | assumption | exact okd_part (by omega) | exact okd_bed (by omega) | exact okd_pile (by omega) | exact okd_dpile (by omega))), by decide⟩) ?_
  refine g_icmp_ge (tgt := 16) hX dX5_hasRoom_9 (by decide) ⟨by omega, by omega⟩ ⟨by omega, by omega⟩ (fun hc => ?_) (fun hc => ?_)
  · refine g_iconst hX dX5_hasRoom_16 ?_
    refine g_zret hX hR dX5_hasRoom_17 (Or.inl rfl) ⟨_, rfl, by rw [if_neg (by omega)], rfl⟩
  · refine g_iconst hX dX5_hasRoom_12 ?_
    refine g_goto (tgt := 17) hX dX5_hasRoom_13 (by decide) ?_
    refine g_zret hX hR dX5_hasRoom_17 (Or.inr rfl) ⟨_, rfl, by rw [if_pos (by omega)], rfl⟩
set_option maxHeartbeats 4000000 in
theorem c_put {lnch : Launch} {V : VX} (hI : InjV V) {μ : Mem} {k h : Nat} {p : Int} (hk : okd k = 5) (hh : μ k 1 = (h : Int)) (h4 : h < 4) : Ct lnch yX5_put cX5_put 2 none 1 V [vr V k, vi p] μ (pV (fun μ' => μ' = mset (mset μ (k + 5) h p) k 1 ((h : Int) + 1))) := by
  refine Ct_of (by decide) hI (Nat.le_of_ble_eq_true rfl) (fun E hE hX hR => ?_)
  have hX : OkX V E RX5 cX5_put 2 1 := hX
  show G V E μ 0 [some (vr V k), some (vi p)] []
  refine g_aload_n hX dX5_put_0 rfl ?_
  refine gf_X5_15 hX dX5_put_1 (by first | assumption | exact okd_part (by omega) | exact okd_bed (by omega) | exact okd_pile (by omega) | exact okd_dpile (by omega)) ?_
  refine g_if_lt (tgt := 39) hX dX5_put_4 (by decide) ⟨by omega, by omega⟩ (fun hc => absurd hc (by omega)) (fun _ => ?_)
  refine g_aload_n hX dX5_put_7 rfl ?_
  refine gf_X5_15 hX dX5_put_8 (by first | assumption | exact okd_part (by omega) | exact okd_bed (by omega) | exact okd_pile (by omega) | exact okd_dpile (by omega)) ?_
  refine g_aload_n hX dX5_put_11 rfl ?_
  refine gf_X5_9 hX dX5_put_12 (by first | assumption | exact okd_part (by omega) | exact okd_bed (by omega) | exact okd_pile (by omega) | exact okd_dpile (by omega)) ?_
  refine g_alen hX dX5_put_15 (N := 4) (Or.inl ⟨(alen5 (by first | assumption | exact okd_part (by omega) | exact okd_bed (by omega) | exact okd_pile (by omega) | exact okd_dpile (by omega))), by decide⟩) ?_
  refine g_icmp_ge (tgt := 39) hX dX5_put_16 (by decide) ⟨by omega, by omega⟩ ⟨by omega, by omega⟩ (fun hc => absurd hc (by omega)) (fun _ => ?_)
  refine g_aload_n hX dX5_put_19 rfl ?_
  refine gf_X5_9 hX dX5_put_20 (by first | assumption | exact okd_part (by omega) | exact okd_bed (by omega) | exact okd_pile (by omega) | exact okd_dpile (by omega)) ?_
  refine g_aload_n hX dX5_put_23 rfl ?_
  refine gf_X5_15 hX dX5_put_24 (by first | assumption | exact okd_part (by omega) | exact okd_bed (by omega) | exact okd_pile (by omega) | exact okd_dpile (by omega)) ?_
  refine g_iload_n hX dX5_put_27 rfl ?_
  refine g_iastN (i := h) hX dX5_put_28 (N := 4) (alen5 (by first | assumption | exact okd_part (by omega) | exact okd_bed (by omega) | exact okd_pile (by omega) | exact okd_dpile (by omega))) (by omega) (by omega) (by decide) ?_
  refine g_aload_n hX dX5_put_29 rfl ?_
  refine g_dup hX dX5_put_30 rfl ?_
  refine gf_X5_15 hX dX5_put_31 (by first | assumption | exact okd_part (by omega) | exact okd_bed (by omega) | exact okd_pile (by omega) | exact okd_dpile (by omega)) ?_
  simp (disch := omega) only [mset_ne, mset_same]
  refine g_iconst hX dX5_put_34 ?_
  refine g_iadd hX dX5_put_35 ?_
  refine pf_X5_15 hX dX5_put_36 (by first | assumption | exact okd_part (by omega) | exact okd_bed (by omega) | exact okd_pile (by omega) | exact okd_dpile (by omega)) ?_
  refine g_vret hX hR dX5_put_39 ⟨rfl, by rw [hh]⟩
set_option maxHeartbeats 4000000 in
theorem c_from {lnch : Launch} {V : VX} (hI : InjV V) {μ : Mem} {k h : Nat} {i : Int} (hk : okd k = 5) (hh : μ k 1 = (h : Int)) (h4 : h ≤ 4) (hi : in32 i) : Ct lnch yX5_from cX5_from 2 (some .int) 1 V [vr V k, vi i] μ (pI (fun z μ' => z = (if 0 ≤ i ∧ i < (h : Int) then μ (k + 5) i.toNat else -4) ∧ μ' = μ)) := by
  refine Ct_of (by decide) hI (Nat.le_of_ble_eq_true rfl) (fun E hE hX hR => ?_)
  have hX : OkX V E RX5 cX5_from 2 1 := hX
  show G V E μ 0 [some (vr V k), some (vi i)] []
  obtain ⟨hi1, hi2⟩ := hi
  refine g_iload_n hX dX5_from_0 rfl ?_
  refine g_if_lt (tgt := 21) hX dX5_from_1 (by decide) ⟨by omega, by omega⟩ (fun h1 => ?_) (fun h1 => ?_)
  · refine g_bipush hX dX5_from_21 rfl ?_
    refine g_goto (tgt := 32) hX dX5_from_23 (by decide) ?_
    refine g_iret hX hR dX5_from_32 ⟨_, rfl, by rw [if_neg (by omega)], rfl⟩
  · refine g_iload_n hX dX5_from_4 rfl ?_
    refine g_aload_n hX dX5_from_5 rfl ?_
    refine gf_X5_15 hX dX5_from_6 (by first | assumption | exact okd_part (by omega) | exact okd_bed (by omega) | exact okd_pile (by omega) | exact okd_dpile (by omega)) ?_
    refine g_icmp_ge (tgt := 21) hX dX5_from_9 (by decide) ⟨by omega, by omega⟩ ⟨by omega, by omega⟩ (fun h2 => ?_) (fun h2 => ?_)
    · refine g_bipush hX dX5_from_21 rfl ?_
      refine g_goto (tgt := 32) hX dX5_from_23 (by decide) ?_
      refine g_iret hX hR dX5_from_32 ⟨_, rfl, by rw [if_neg (by omega)], rfl⟩
    · refine g_iload_n hX dX5_from_12 rfl ?_
      refine g_aload_n hX dX5_from_13 rfl ?_
      refine gf_X5_9 hX dX5_from_14 (by first | assumption | exact okd_part (by omega) | exact okd_bed (by omega) | exact okd_pile (by omega) | exact okd_dpile (by omega)) ?_
      refine g_alen hX dX5_from_17 (N := 4) (Or.inl ⟨(alen5 (by first | assumption | exact okd_part (by omega) | exact okd_bed (by omega) | exact okd_pile (by omega) | exact okd_dpile (by omega))), by decide⟩) ?_
      refine g_icmp_lt (tgt := 26) hX dX5_from_18 (by decide) ⟨by omega, by omega⟩ ⟨by omega, by omega⟩ (fun _ => ?_) (fun hc => absurd hc (by omega))
      refine g_aload_n hX dX5_from_26 rfl ?_
      refine gf_X5_9 hX dX5_from_27 (by first | assumption | exact okd_part (by omega) | exact okd_bed (by omega) | exact okd_pile (by omega) | exact okd_dpile (by omega)) ?_
      refine g_iload_n hX dX5_from_30 rfl ?_
      refine g_ialdN (i := i.toNat) hX dX5_from_31 (N := 4) (alen5 (by first | assumption | exact okd_part (by omega) | exact okd_bed (by omega) | exact okd_pile (by omega) | exact okd_dpile (by omega))) (by omega) (by omega) (by decide) ?_
      refine g_iret hX hR dX5_from_32 ⟨_, rfl, by rw [if_pos (by omega)], rfl⟩
set_option maxHeartbeats 4000000 in
theorem c_top {lnch : Launch} {V : VX} (hI : InjV V) {μ : Mem} {k h : Nat} (hk : okd k = 5) (hh : μ k 1 = (h : Int)) (h4 : h ≤ 4) : Ct lnch yX5_top cX5_top 1 (some .int) 2 V [vr V k] μ (pI (fun z μ' => z = (if 0 < h then μ (k + 5) (h - 1) else -4) ∧ μ' = μ)) := by
  refine Ct_of (by decide) hI (Nat.le_of_ble_eq_true rfl) (fun E hE hX hR => ?_)
  have hX : OkX V E RX5 cX5_top 1 2 := hX
  show G V E μ 0 [some (vr V k)] []
  refine g_aload_n hX dX5_top_0 rfl ?_
  refine g_aload_n hX dX5_top_1 rfl ?_
  refine gf_X5_15 hX dX5_top_2 (by first | assumption | exact okd_part (by omega) | exact okd_bed (by omega) | exact okd_pile (by omega) | exact okd_dpile (by omega)) ?_
  refine g_iconst hX dX5_top_5 ?_
  refine g_isub hX dX5_top_6 ?_
  refine g_v1I hX lk_X5_19 dX5_top_7 (c0 := 5) (by first | assumption | exact okd_part (by omega) | exact okd_bed (by omega) | exact okd_pile (by omega) | exact okd_dpile (by omega)) ⟨_, rfl, rfl⟩ (c_from hI hk hh h4 ⟨by omega, by omega⟩) (by first | decide | omega) (by decide) rfl (Nat.le_of_ble_eq_true rfl) (fun z μ' hp => ?_)
  obtain ⟨rfl, rfl⟩ := hp
  refine g_iret hX hR dX5_top_10 ⟨_, rfl, ?_, rfl⟩
  rw [hh]
  by_cases h0 : 0 < h
  · rw [if_pos (by omega), if_pos h0, show ((h : Int) - 1).toNat = h - 1 by omega]
  · rw [if_neg (by omega), if_neg h0]
set_option maxHeartbeats 4000000 in
theorem c_takeOff {lnch : Launch} {V : VX} (hI : InjV V) {μ : Mem} {k h : Nat} (hk : okd k = 5) (hh : μ k 1 = (h : Int)) (h4 : h ≤ 4) (h0 : 0 < h) : Ct lnch yX5_takeOff cX5_takeOff 2 (some .int) 3 V [vr V k] μ (pI (fun z μ' => z = μ (k + 5) (h - 1) ∧ μ' = mset μ k 1 ((h : Int) - 1))) := by
  refine Ct_of (by decide) hI (Nat.le_of_ble_eq_true rfl) (fun E hE hX hR => ?_)
  have hX : OkX V E RX5 cX5_takeOff 2 3 := hX
  show G V E μ 0 [some (vr V k), none] []
  refine g_aload_n hX dX5_takeOff_0 rfl ?_
  refine g_v0I hX lk_X5_23 dX5_takeOff_1 (c0 := 5) (by first | assumption | exact okd_part (by omega) | exact okd_bed (by omega) | exact okd_pile (by omega) | exact okd_dpile (by omega)) ⟨_, rfl, rfl⟩ (c_top hI hk hh h4) (by first | decide | omega) (by decide) rfl (Nat.le_of_ble_eq_true rfl) (fun z μ' hp => ?_)
  obtain ⟨rfl, rfl⟩ := hp
  rw [if_pos h0]
  refine st_istore_n_2_1 hX dX5_takeOff_4 (by first | exact ck_i _ | exact ck_r _ _ | exact ck_n | exact ck_0) ?_
  refine g_aload_n hX dX5_takeOff_5 rfl ?_
  refine gf_X5_15 hX dX5_takeOff_6 (by first | assumption | exact okd_part (by omega) | exact okd_bed (by omega) | exact okd_pile (by omega) | exact okd_dpile (by omega)) ?_
  refine g_if_le (tgt := 22) hX dX5_takeOff_9 (by decide) ⟨by omega, by omega⟩ (fun hc => absurd hc (by omega)) (fun _ => ?_)
  refine g_aload_n hX dX5_takeOff_12 rfl ?_
  refine g_dup hX dX5_takeOff_13 rfl ?_
  refine gf_X5_15 hX dX5_takeOff_14 (by first | assumption | exact okd_part (by omega) | exact okd_bed (by omega) | exact okd_pile (by omega) | exact okd_dpile (by omega)) ?_
  refine g_iconst hX dX5_takeOff_17 ?_
  refine g_isub hX dX5_takeOff_18 ?_
  refine pf_X5_15 hX dX5_takeOff_19 (by first | assumption | exact okd_part (by omega) | exact okd_bed (by omega) | exact okd_pile (by omega) | exact okd_dpile (by omega)) ?_
  refine g_iload_n hX dX5_takeOff_22 rfl ?_
  refine g_iret hX hR dX5_takeOff_23 ⟨_, rfl, rfl, by rw [hh]⟩
set_option maxHeartbeats 4000000 in
theorem c_pclear {lnch : Launch} {V : VX} (hI : InjV V) {μ : Mem} {k : Nat} (hk : okd k = 5) : Ct lnch yX5_clear cX5_clear 1 none 1 V [vr V k] μ (pV (fun μ' => μ' = mset μ k 1 0)) := by
  refine Ct_of (by decide) hI (Nat.le_of_ble_eq_true rfl) (fun E hE hX hR => ?_)
  have hX : OkX V E RX5 cX5_clear 1 1 := hX
  show G V E μ 0 [some (vr V k)] []
  refine g_aload_n hX dX5_clear_0 rfl ?_
  refine g_iconst hX dX5_clear_1 ?_
  refine pf_X5_15 hX dX5_clear_2 (by first | assumption | exact okd_part (by omega) | exact okd_bed (by omega) | exact okd_pile (by omega) | exact okd_dpile (by omega)) ?_
  refine g_vret hX hR dX5_clear_5 ⟨rfl, rfl⟩
set_option maxHeartbeats 4000000 in
theorem c_measure {lnch : Launch} {V : VX} (hI : InjV V) {μ : Mem} {k : Nat} {a b c : Int} (hk : okd k = 4) : Ct lnch yX4_measure cX4_measure 4 none 1 V [vr V k, vi a, vi b, vi c] μ (pV (fun μ' => μ' = mset (mset (mset μ k 0 a) k 1 b) k 2 c)) := by
  refine Ct_of (by decide) hI (Nat.le_of_ble_eq_true rfl) (fun E hE hX hR => ?_)
  have hX : OkX V E RX4 cX4_measure 4 1 := hX
  show G V E μ 0 [some (vr V k), some (vi a), some (vi b), some (vi c)] []
  refine g_aload_n hX dX4_measure_0 rfl ?_
  refine g_iload_n hX dX4_measure_1 rfl ?_
  refine pf_X4_18 hX dX4_measure_2 (by first | assumption | exact okd_part (by omega) | exact okd_bed (by omega) | exact okd_pile (by omega) | exact okd_dpile (by omega)) ?_
  refine g_aload_n hX dX4_measure_5 rfl ?_
  refine g_iload_n hX dX4_measure_6 rfl ?_
  refine pf_X4_21 hX dX4_measure_7 (by first | assumption | exact okd_part (by omega) | exact okd_bed (by omega) | exact okd_pile (by omega) | exact okd_dpile (by omega)) ?_
  refine g_aload_n hX dX4_measure_10 rfl ?_
  refine g_iload_n hX dX4_measure_11 rfl ?_
  refine pf_X4_24 hX dX4_measure_12 (by first | assumption | exact okd_part (by omega) | exact okd_bed (by omega) | exact okd_pile (by omega) | exact okd_dpile (by omega)) ?_
  refine g_vret hX hR dX4_measure_15 ⟨rfl, rfl⟩
set_option maxHeartbeats 4000000 in
theorem c_isNow {lnch : Launch} {V : VX} (hI : InjV V) {μ : Mem} {k : Nat} {a b : Int} (hk : okd k = 4) : Ct lnch yX4_isNow cX4_isNow 3 none 1 V [vr V k, vi a, vi b] μ (pV (fun μ' => μ' = mset (mset μ k 4 a) k 5 b)) := by
  refine Ct_of (by decide) hI (Nat.le_of_ble_eq_true rfl) (fun E hE hX hR => ?_)
  have hX : OkX V E RX4 cX4_isNow 3 1 := hX
  show G V E μ 0 [some (vr V k), some (vi a), some (vi b)] []
  refine g_aload_n hX dX4_isNow_0 rfl ?_
  refine g_iload_n hX dX4_isNow_1 rfl ?_
  refine pf_X4_9 hX dX4_isNow_2 (by first | assumption | exact okd_part (by omega) | exact okd_bed (by omega) | exact okd_pile (by omega) | exact okd_dpile (by omega)) ?_
  refine g_aload_n hX dX4_isNow_5 rfl ?_
  refine g_iload_n hX dX4_isNow_6 rfl ?_
  refine pf_X4_15 hX dX4_isNow_7 (by first | assumption | exact okd_part (by omega) | exact okd_bed (by omega) | exact okd_pile (by omega) | exact okd_dpile (by omega)) ?_
  refine g_vret hX hR dX4_isNow_10 ⟨rfl, rfl⟩
set_option maxHeartbeats 4000000 in
theorem c_isStruck {lnch : Launch} {V : VX} (hI : InjV V) {μ : Mem} {k : Nat} (hk : okd k = 4) : Ct lnch yX4_isStruck cX4_isStruck 1 none 2 V [vr V k] μ (pV (fun μ' => μ' = mset (mset (mset μ k 4 5) k 5 (-4)) k 7 0)) := by
  refine Ct_of (by decide) hI (Nat.le_of_ble_eq_true rfl) (fun E hE hX hR => ?_)
  have hX : OkX V E RX4 cX4_isStruck 1 2 := hX
  show G V E μ 0 [some (vr V k)] []
  refine g_aload_n hX dX4_isStruck_0 rfl ?_
  refine g_iconst hX dX4_isStruck_1 ?_
  refine g_bipush hX dX4_isStruck_2 rfl ?_
  refine g_v2V hX lk_X4_27 dX4_isStruck_4 (c0 := 4) (by first | assumption | exact okd_part (by omega) | exact okd_bed (by omega) | exact okd_pile (by omega) | exact okd_dpile (by omega)) ⟨_, rfl, rfl⟩ (c_isNow hI hk) (by first | decide | omega) (by decide) rfl (Nat.le_of_ble_eq_true rfl) (fun μ' hp => ?_)
  subst hp
  refine g_aload_n hX dX4_isStruck_7 rfl ?_
  refine g_iconst hX dX4_isStruck_8 ?_
  refine pf_X4_31 hX dX4_isStruck_9 (by first | assumption | exact okd_part (by omega) | exact okd_bed (by omega) | exact okd_pile (by omega) | exact okd_dpile (by omega)) (by first | exact Or.inl rfl | exact Or.inr rfl | assumption) ?_
  refine g_vret hX hR dX4_isStruck_12 ⟨rfl, rfl⟩
set_option maxHeartbeats 4000000 in
theorem c_btake {lnch : Launch} {V : VX} (hI : InjV V) {μ : Mem} {k h : Nat} {a b : Int} (hk : okd k = 0) (hh : μ k 0 = (h : Int)) (h4 : h ≤ 40) : Ct lnch yX0_take cX0_take 3 none 1 V [vr V k, vi a, vi b] μ (pV (fun μ' => μ' = mset (mset (mset μ k 1 (μ k 1 + (if h = 0 then a else 4 + a))) k 0 ((h : Int) + 1)) k 3 b)) := by
  refine Ct_of (by decide) hI (Nat.le_of_ble_eq_true rfl) (fun E hE hX hR => ?_)
  have hX : OkX V E RX0 cX0_take 3 1 := hX
  show G V E μ 0 [some (vr V k), some (vi a), some (vi b)] []
  refine g_aload_n hX dX0_take_0 rfl ?_
  refine g_dup hX dX0_take_1 rfl ?_
  refine gf_X0_9 hX dX0_take_2 (by first | assumption | exact okd_part (by omega) | exact okd_bed (by omega) | exact okd_pile (by omega) | exact okd_dpile (by omega)) ?_
  refine g_aload_n hX dX0_take_5 rfl ?_
  refine gf_X0_15 hX dX0_take_6 (by first | assumption | exact okd_part (by omega) | exact okd_bed (by omega) | exact okd_pile (by omega) | exact okd_dpile (by omega)) ?_
  refine g_if_ne (tgt := 16) hX dX0_take_9 (by decide) ⟨by omega, by omega⟩ (fun hc => ?_) (fun hc => ?_)
  · refine g_iconst hX dX0_take_16 ?_
    refine g_iload_n hX dX0_take_17 rfl ?_
    refine g_iadd hX dX0_take_18 ?_
    refine g_iadd hX dX0_take_19 ?_
    refine pf_X0_9 hX dX0_take_20 (by first | assumption | exact okd_part (by omega) | exact okd_bed (by omega) | exact okd_pile (by omega) | exact okd_dpile (by omega)) ?_
    refine g_aload_n hX dX0_take_23 rfl ?_
    refine g_dup hX dX0_take_24 rfl ?_
    refine gf_X0_15 hX dX0_take_25 (by first | assumption | exact okd_part (by omega) | exact okd_bed (by omega) | exact okd_pile (by omega) | exact okd_dpile (by omega)) ?_
    simp (disch := omega) only [mset_ne, mset_same]
    refine g_iconst hX dX0_take_28 ?_
    refine g_iadd hX dX0_take_29 ?_
    refine pf_X0_15 hX dX0_take_30 (by first | assumption | exact okd_part (by omega) | exact okd_bed (by omega) | exact okd_pile (by omega) | exact okd_dpile (by omega)) ?_
    refine g_aload_n hX dX0_take_33 rfl ?_
    refine g_iload_n hX dX0_take_34 rfl ?_
    refine pf_X0_18 hX dX0_take_35 (by first | assumption | exact okd_part (by omega) | exact okd_bed (by omega) | exact okd_pile (by omega) | exact okd_dpile (by omega)) ?_
    refine g_vret hX hR dX0_take_38 ⟨rfl, by rw [hh, if_neg (by omega)]⟩
  · refine g_iload_n hX dX0_take_12 rfl ?_
    refine g_goto (tgt := 19) hX dX0_take_13 (by decide) ?_
    refine g_iadd hX dX0_take_19 ?_
    refine pf_X0_9 hX dX0_take_20 (by first | assumption | exact okd_part (by omega) | exact okd_bed (by omega) | exact okd_pile (by omega) | exact okd_dpile (by omega)) ?_
    refine g_aload_n hX dX0_take_23 rfl ?_
    refine g_dup hX dX0_take_24 rfl ?_
    refine gf_X0_15 hX dX0_take_25 (by first | assumption | exact okd_part (by omega) | exact okd_bed (by omega) | exact okd_pile (by omega) | exact okd_dpile (by omega)) ?_
    simp (disch := omega) only [mset_ne, mset_same]
    refine g_iconst hX dX0_take_28 ?_
    refine g_iadd hX dX0_take_29 ?_
    refine pf_X0_15 hX dX0_take_30 (by first | assumption | exact okd_part (by omega) | exact okd_bed (by omega) | exact okd_pile (by omega) | exact okd_dpile (by omega)) ?_
    refine g_aload_n hX dX0_take_33 rfl ?_
    refine g_iload_n hX dX0_take_34 rfl ?_
    refine pf_X0_18 hX dX0_take_35 (by first | assumption | exact okd_part (by omega) | exact okd_bed (by omega) | exact okd_pile (by omega) | exact okd_dpile (by omega)) ?_
    refine g_vret hX hR dX0_take_38 ⟨rfl, by rw [hh, if_pos (by omega)]⟩
set_option maxHeartbeats 4000000 in
theorem c_bclear {lnch : Launch} {V : VX} (hI : InjV V) {μ : Mem} {k : Nat} (hk : okd k = 0) : Ct lnch yX0_clear cX0_clear 1 none 1 V [vr V k] μ (pV (fun μ' => μ' = mset (mset (mset μ k 0 0) k 1 0) k 2 0)) := by
  refine Ct_of (by decide) hI (Nat.le_of_ble_eq_true rfl) (fun E hE hX hR => ?_)
  have hX : OkX V E RX0 cX0_clear 1 1 := hX
  show G V E μ 0 [some (vr V k)] []
  refine g_aload_n hX dX0_clear_0 rfl ?_
  refine g_iconst hX dX0_clear_1 ?_
  refine pf_X0_15 hX dX0_clear_2 (by first | assumption | exact okd_part (by omega) | exact okd_bed (by omega) | exact okd_pile (by omega) | exact okd_dpile (by omega)) ?_
  refine g_aload_n hX dX0_clear_5 rfl ?_
  refine g_iconst hX dX0_clear_6 ?_
  refine pf_X0_9 hX dX0_clear_7 (by first | assumption | exact okd_part (by omega) | exact okd_bed (by omega) | exact okd_pile (by omega) | exact okd_dpile (by omega)) ?_
  refine g_aload_n hX dX0_clear_10 rfl ?_
  refine g_iconst hX dX0_clear_11 ?_
  refine pf_X0_21 hX dX0_clear_12 (by first | assumption | exact okd_part (by omega) | exact okd_bed (by omega) | exact okd_pile (by omega) | exact okd_dpile (by omega)) ?_
  refine g_vret hX hR dX0_clear_15 ⟨rfl, rfl⟩
set_option maxHeartbeats 4000000 in
theorem c_hasPlace {lnch : Launch} {V : VX} (hI : InjV V) {μ : Mem} {h : Nat} (hh : μ 67 1 = (h : Int)) (h4 : h ≤ 4) : Ct lnch yX2_hasPlace cX2_hasPlace 1 (some .boolean) 1 V [vr V 67] μ (pI (fun z μ' => z = (if h < 4 then 1 else 0) ∧ μ' = μ)) := by
  refine Ct_of (by decide) hI (Nat.le_of_ble_eq_true rfl) (fun E hE hX hR => ?_)
  have hX : OkX V E RX2 cX2_hasPlace 1 1 := hX
  show G V E μ 0 [some (vr V 67)] []
  refine g_aload_n hX dX2_hasPlace_0 rfl ?_
  refine gf_X2_15 hX dX2_hasPlace_1 ?_
  refine g_aload_n hX dX2_hasPlace_4 rfl ?_
  refine gf_X2_9 hX dX2_hasPlace_5 ?_
  refine g_alen hX dX2_hasPlace_8 (N := 4) (Or.inl ⟨rfl, by decide⟩) ?_
  refine g_icmp_ge (tgt := 16) hX dX2_hasPlace_9 (by decide) ⟨by omega, by omega⟩ ⟨by omega, by omega⟩ (fun hc => ?_) (fun hc => ?_)
  · refine g_iconst hX dX2_hasPlace_16 ?_
    refine g_zret hX hR dX2_hasPlace_17 (Or.inl rfl) ⟨_, rfl, by rw [if_neg (by omega)], rfl⟩
  · refine g_iconst hX dX2_hasPlace_12 ?_
    refine g_goto (tgt := 17) hX dX2_hasPlace_13 (by decide) ?_
    refine g_zret hX hR dX2_hasPlace_17 (Or.inr rfl) ⟨_, rfl, by rw [if_pos (by omega)], rfl⟩
set_option maxHeartbeats 4000000 in
theorem c_frontShare {lnch : Launch} {V : VX} (hI : InjV V) {μ : Mem}  : Ct lnch yX2_frontShare cX2_frontShare 1 (some .int) 1 V [vr V 67] μ (pI (fun z μ' => z = 8 - 2 * μ 67 1 ∧ μ' = μ)) := by
  refine Ct_of (by decide) hI (Nat.le_of_ble_eq_true rfl) (fun E hE hX hR => ?_)
  have hX : OkX V E RX2 cX2_frontShare 1 1 := hX
  show G V E μ 0 [some (vr V 67)] []
  refine g_bipush hX dX2_frontShare_0 rfl ?_
  refine g_iconst hX dX2_frontShare_2 ?_
  refine g_aload_n hX dX2_frontShare_3 rfl ?_
  refine gf_X2_15 hX dX2_frontShare_4 ?_
  refine g_imul hX dX2_frontShare_7 ?_
  refine g_isub hX dX2_frontShare_8 ?_
  refine g_iret hX hR dX2_frontShare_9 ⟨_, rfl, rfl, rfl⟩
set_option maxHeartbeats 4000000 in
theorem c_rearShare {lnch : Launch} {V : VX} (hI : InjV V) {μ : Mem}  : Ct lnch yX2_rearShare cX2_rearShare 1 (some .int) 1 V [vr V 67] μ (pI (fun z μ' => z = 2 * μ 67 1 + 1 ∧ μ' = μ)) := by
  refine Ct_of (by decide) hI (Nat.le_of_ble_eq_true rfl) (fun E hE hX hR => ?_)
  have hX : OkX V E RX2 cX2_rearShare 1 1 := hX
  show G V E μ 0 [some (vr V 67)] []
  refine g_iconst hX dX2_rearShare_0 ?_
  refine g_aload_n hX dX2_rearShare_1 rfl ?_
  refine gf_X2_15 hX dX2_rearShare_2 ?_
  refine g_imul hX dX2_rearShare_5 ?_
  refine g_iconst hX dX2_rearShare_6 ?_
  refine g_iadd hX dX2_rearShare_7 ?_
  refine g_iret hX hR dX2_rearShare_8 ⟨_, rfl, rfl, rfl⟩
set_option maxHeartbeats 4000000 in
theorem c_bears {lnch : Launch} {V : VX} (hI : InjV V) {μ : Mem} {w : Int} (h1 : 0 ≤ μ 67 1 ∧ μ 67 1 ≤ 3) (h2 : 0 ≤ μ 67 2 ∧ μ 67 2 ≤ 1000) (h3 : 0 ≤ μ 67 3 ∧ μ 67 3 ≤ 10000) (h4 : 0 ≤ μ 67 4 ∧ μ 67 4 ≤ 10000) (hw : 0 ≤ w ∧ w ≤ 1000) : Ct lnch yX2_bears cX2_bears 2 (some .boolean) 2 V [vr V 67, vi w] μ (pI (fun z μ' => z = (if μ 67 2 + w ≤ 120 ∧ μ 67 3 + w * (8 - 2 * μ 67 1) ≤ 720 ∧ μ 67 4 + w * (2 * μ 67 1 + 1) ≤ 720 then 1 else 0) ∧ μ' = μ)) := by
  refine Ct_of (by decide) hI (Nat.le_of_ble_eq_true rfl) (fun E hE hX hR => ?_)
  have hX : OkX V E RX2 cX2_bears 2 2 := hX
  show G V E μ 0 [some (vr V 67), some (vi w)] []
  have hf : 0 ≤ w * (8 - 2 * μ 67 1) ∧ w * (8 - 2 * μ 67 1) ≤ 8000 := by
    have : μ 67 1 = 0 ∨ μ 67 1 = 1 ∨ μ 67 1 = 2 ∨ μ 67 1 = 3 := by omega
    rcases this with h | h | h | h <;> rw [h] <;> omega
  have hr : 0 ≤ w * (2 * μ 67 1 + 1) ∧ w * (2 * μ 67 1 + 1) ≤ 8000 := by
    have : μ 67 1 = 0 ∨ μ 67 1 = 1 ∨ μ 67 1 = 2 ∨ μ 67 1 = 3 := by omega
    rcases this with h | h | h | h <;> rw [h] <;> omega
  refine g_aload_n hX dX2_bears_0 rfl ?_
  refine gf_X2_19 hX dX2_bears_1 ?_
  refine g_iload_n hX dX2_bears_4 rfl ?_
  refine g_iadd hX dX2_bears_5 ?_
  refine g_bipush hX dX2_bears_6 rfl ?_
  refine g_icmp_gt (tgt := 49) hX dX2_bears_8 (by decide) ⟨by omega, by omega⟩ ⟨by omega, by omega⟩ (fun hc1 => ?_) (fun hc1 => ?_)
  · refine g_iconst hX dX2_bears_49 ?_
    refine g_zret hX hR dX2_bears_50 (Or.inl rfl) ⟨_, rfl, by rw [if_neg (by omega)], rfl⟩
  refine g_aload_n hX dX2_bears_11 rfl ?_
  refine gf_X2_22 hX dX2_bears_12 ?_
  refine g_iload_n hX dX2_bears_15 rfl ?_
  refine g_aload_n hX dX2_bears_16 rfl ?_
  refine g_v0I hX lk_X2_25 dX2_bears_17 (c0 := 2) ok67 ⟨_, rfl, rfl⟩ (c_frontShare hI) (by first | decide | omega) (by decide) rfl (Nat.le_of_ble_eq_true rfl) (fun z μ' hp => ?_)
  obtain ⟨rfl, rfl⟩ := hp
  refine g_imul hX dX2_bears_20 ?_
  refine g_iadd hX dX2_bears_21 ?_
  refine g_sipush hX dX2_bears_22 rfl ?_
  refine g_icmp_gt (tgt := 49) hX dX2_bears_25 (by decide) ⟨by omega, by omega⟩ ⟨by omega, by omega⟩ (fun hc2 => ?_) (fun hc2 => ?_)
  · refine g_iconst hX dX2_bears_49 ?_
    refine g_zret hX hR dX2_bears_50 (Or.inl rfl) ⟨_, rfl, by rw [if_neg (by omega)], rfl⟩
  refine g_aload_n hX dX2_bears_28 rfl ?_
  refine gf_X2_29 hX dX2_bears_29 ?_
  refine g_iload_n hX dX2_bears_32 rfl ?_
  refine g_aload_n hX dX2_bears_33 rfl ?_
  refine g_v0I hX lk_X2_32 dX2_bears_34 (c0 := 2) ok67 ⟨_, rfl, rfl⟩ (c_rearShare hI) (by first | decide | omega) (by decide) rfl (Nat.le_of_ble_eq_true rfl) (fun z μ' hp => ?_)
  obtain ⟨rfl, rfl⟩ := hp
  refine g_imul hX dX2_bears_37 ?_
  refine g_iadd hX dX2_bears_38 ?_
  refine g_sipush hX dX2_bears_39 rfl ?_
  refine g_icmp_gt (tgt := 49) hX dX2_bears_42 (by decide) ⟨by omega, by omega⟩ ⟨by omega, by omega⟩ (fun hc3 => ?_) (fun hc3 => ?_)
  · refine g_iconst hX dX2_bears_49 ?_
    refine g_zret hX hR dX2_bears_50 (Or.inl rfl) ⟨_, rfl, by rw [if_neg (by omega)], rfl⟩
  refine g_iconst hX dX2_bears_45 ?_
  refine g_goto (tgt := 50) hX dX2_bears_46 (by decide) ?_
  refine g_zret hX hR dX2_bears_50 (Or.inr rfl) ⟨_, rfl, by rw [if_pos (by omega)], rfl⟩
set_option maxHeartbeats 4000000 in
theorem c_ltake {lnch : Launch} {V : VX} (hI : InjV V) {μ : Mem} {h : Nat} {p w : Int} (hh : μ 67 1 = (h : Int)) (h4 : h < 4) : Ct lnch yX2_take cX2_take 4 (some .int) 2 V [vr V 67, vi p, vi w] μ (pI (fun z μ' => z = (h : Int) ∧ μ' = mset (mset (mset (mset (mset μ 67 3 (μ 67 3 + w * (8 - 2 * (h : Int)))) 67 4 (μ 67 4 + w * (2 * (h : Int) + 1))) 67 2 (μ 67 2 + w)) 68 h p) 67 1 ((h : Int) + 1))) := by
  refine Ct_of (by decide) hI (Nat.le_of_ble_eq_true rfl) (fun E hE hX hR => ?_)
  have hX : OkX V E RX2 cX2_take 4 2 := hX
  show G V E μ 0 [some (vr V 67), some (vi p), some (vi w), none] []
  refine g_aload_n hX dX2_take_0 rfl ?_
  refine gf_X2_15 hX dX2_take_1 ?_
  refine st_istore_n_4_3 hX dX2_take_4 (by first | exact ck_i _ | exact ck_r _ _ | exact ck_n | exact ck_0) ?_
  refine g_iload_n hX dX2_take_5 rfl ?_
  refine g_if_lt (tgt := 18) hX dX2_take_6 (by decide) ⟨by omega, by omega⟩ (fun hc => absurd hc (by omega)) (fun _ => ?_)
  refine g_iload_n hX dX2_take_9 rfl ?_
  refine g_aload_n hX dX2_take_10 rfl ?_
  refine gf_X2_9 hX dX2_take_11 ?_
  refine g_alen hX dX2_take_14 (N := 4) (Or.inl ⟨rfl, by decide⟩) ?_
  refine g_icmp_lt (tgt := 21) hX dX2_take_15 (by decide) ⟨by omega, by omega⟩ ⟨by omega, by omega⟩ (fun _ => ?_) (fun hc => absurd hc (by omega))
  refine g_aload_n hX dX2_take_21 rfl ?_
  refine g_dup hX dX2_take_22 rfl ?_
  refine gf_X2_22 hX dX2_take_23 ?_
  refine g_iload_n hX dX2_take_26 rfl ?_
  refine g_aload_n hX dX2_take_27 rfl ?_
  refine g_v0I hX lk_X2_25 dX2_take_28 (c0 := 2) ok67 ⟨_, rfl, rfl⟩ (c_frontShare hI) (by first | decide | omega) (by decide) rfl (Nat.le_of_ble_eq_true rfl) (fun z μ' hp => ?_)
  obtain ⟨rfl, rfl⟩ := hp
  refine g_imul hX dX2_take_31 ?_
  refine g_iadd hX dX2_take_32 ?_
  refine pf_X2_22 hX dX2_take_33 ?_
  refine g_aload_n hX dX2_take_36 rfl ?_
  refine g_dup hX dX2_take_37 rfl ?_
  refine gf_X2_29 hX dX2_take_38 ?_
  simp (disch := omega) only [mset_ne, mset_same]
  refine g_iload_n hX dX2_take_41 rfl ?_
  refine g_aload_n hX dX2_take_42 rfl ?_
  refine g_v0I hX lk_X2_32 dX2_take_43 (c0 := 2) ok67 ⟨_, rfl, rfl⟩ (c_rearShare hI) (by first | decide | omega) (by decide) rfl (Nat.le_of_ble_eq_true rfl) (fun z μ' hp => ?_)
  obtain ⟨rfl, rfl⟩ := hp
  refine g_imul hX dX2_take_46 ?_
  refine g_iadd hX dX2_take_47 ?_
  refine pf_X2_29 hX dX2_take_48 ?_
  refine g_aload_n hX dX2_take_51 rfl ?_
  refine g_dup hX dX2_take_52 rfl ?_
  refine gf_X2_19 hX dX2_take_53 ?_
  simp (disch := omega) only [mset_ne, mset_same]
  refine g_iload_n hX dX2_take_56 rfl ?_
  refine g_iadd hX dX2_take_57 ?_
  refine pf_X2_19 hX dX2_take_58 ?_
  refine g_aload_n hX dX2_take_61 rfl ?_
  refine gf_X2_9 hX dX2_take_62 ?_
  refine g_iload_n hX dX2_take_65 rfl ?_
  refine g_iload_n hX dX2_take_66 rfl ?_
  refine g_iastN (i := h) hX dX2_take_67 (N := 4) rfl (by omega) (by omega) (by decide) ?_
  refine g_aload_n hX dX2_take_68 rfl ?_
  refine g_dup hX dX2_take_69 rfl ?_
  refine gf_X2_15 hX dX2_take_70 ?_
  simp (disch := omega) only [mset_ne, mset_same]
  refine g_iconst hX dX2_take_73 ?_
  refine g_iadd hX dX2_take_74 ?_
  refine pf_X2_15 hX dX2_take_75 ?_
  refine g_iload_n hX dX2_take_78 rfl ?_
  refine g_iret hX hR dX2_take_79 ⟨_, rfl, hh, by rw [hh]⟩
set_option maxHeartbeats 4000000 in
theorem c_partOn {lnch : Launch} {V : VX} (hI : InjV V) {μ : Mem} {h i : Nat} (hh : μ 67 1 = (h : Int)) (h4 : h ≤ 4) (hi : i < h) : Ct lnch yX2_partOn cX2_partOn 2 (some .int) 1 V [vr V 67, vi i] μ (pI (fun z μ' => z = μ 68 i ∧ μ' = μ)) := by
  refine Ct_of (by decide) hI (Nat.le_of_ble_eq_true rfl) (fun E hE hX hR => ?_)
  have hX : OkX V E RX2 cX2_partOn 2 1 := hX
  show G V E μ 0 [some (vr V 67), some (vi i)] []
  refine g_iload_n hX dX2_partOn_0 rfl ?_
  refine g_if_lt (tgt := 21) hX dX2_partOn_1 (by decide) ⟨by omega, by omega⟩ (fun hc => absurd hc (by omega)) (fun _ => ?_)
  refine g_iload_n hX dX2_partOn_4 rfl ?_
  refine g_aload_n hX dX2_partOn_5 rfl ?_
  refine gf_X2_15 hX dX2_partOn_6 ?_
  refine g_icmp_ge (tgt := 21) hX dX2_partOn_9 (by decide) ⟨by omega, by omega⟩ ⟨by omega, by omega⟩ (fun hc => absurd hc (by omega)) (fun _ => ?_)
  refine g_iload_n hX dX2_partOn_12 rfl ?_
  refine g_aload_n hX dX2_partOn_13 rfl ?_
  refine gf_X2_9 hX dX2_partOn_14 ?_
  refine g_alen hX dX2_partOn_17 (N := 4) (Or.inl ⟨rfl, by decide⟩) ?_
  refine g_icmp_lt (tgt := 26) hX dX2_partOn_18 (by decide) ⟨by omega, by omega⟩ ⟨by omega, by omega⟩ (fun _ => ?_) (fun hc => absurd hc (by omega))
  refine g_aload_n hX dX2_partOn_26 rfl ?_
  refine gf_X2_9 hX dX2_partOn_27 ?_
  refine g_iload_n hX dX2_partOn_30 rfl ?_
  refine g_ialdN hX dX2_partOn_31 (N := 4) rfl rfl (by omega) (by decide) ?_
  refine g_iret hX hR dX2_partOn_32 ⟨_, rfl, rfl, rfl⟩
set_option maxHeartbeats 4000000 in
theorem c_lclear {lnch : Launch} {V : VX} (hI : InjV V) {μ : Mem}  : Ct lnch yX2_clear cX2_clear 1 none 1 V [vr V 67] μ (pV (fun μ' => μ' = mset (mset (mset (mset μ 67 1 0) 67 2 0) 67 3 0) 67 4 0)) := by
  refine Ct_of (by decide) hI (Nat.le_of_ble_eq_true rfl) (fun E hE hX hR => ?_)
  have hX : OkX V E RX2 cX2_clear 1 1 := hX
  show G V E μ 0 [some (vr V 67)] []
  refine g_aload_n hX dX2_clear_0 rfl ?_
  refine g_iconst hX dX2_clear_1 ?_
  refine pf_X2_15 hX dX2_clear_2 ?_
  refine g_aload_n hX dX2_clear_5 rfl ?_
  refine g_iconst hX dX2_clear_6 ?_
  refine pf_X2_19 hX dX2_clear_7 ?_
  refine g_aload_n hX dX2_clear_10 rfl ?_
  refine g_iconst hX dX2_clear_11 ?_
  refine pf_X2_22 hX dX2_clear_12 ?_
  refine g_aload_n hX dX2_clear_15 rfl ?_
  refine g_iconst hX dX2_clear_16 ?_
  refine pf_X2_29 hX dX2_clear_17 ?_
  refine g_vret hX hR dX2_clear_20 ⟨rfl, rfl⟩
