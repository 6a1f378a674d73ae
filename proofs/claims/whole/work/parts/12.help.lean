/-! the class's helpers that change nothing -/
set_option maxHeartbeats 4000000 in
theorem c_partOf {lnch : Launch} {V : VX} (hI : InjV V) {μ : Mem} {n : Nat} {i : Int} (hn : μ 63 6 = (n : Int)) (hn4 : n ≤ 40) (hi : in32 i) : Ct lnch yX6_partOf cX6_partOf 2 (some (.object "StoneBeds$Part")) 1 V [vr V 63, vi i] μ (pR V (fun r μ' => r = (if 0 ≤ i ∧ i < (n : Int) then some i.toNat else none) ∧ μ' = μ)) := by
  refine Ct_of (by decide) hI (Nat.le_of_ble_eq_true rfl) (fun E hE hX hR => ?_)
  have hX : OkX V E RX6 cX6_partOf 2 1 := hX
  show G V E μ 0 [some (vr V 63), some (vi i)] []
  obtain ⟨hi1, hi2⟩ := hi
  refine g_iload_n hX dX6_partOf_0 rfl ?_
  refine g_if_lt (tgt := 21) hX dX6_partOf_1 (by decide) ⟨by omega, by omega⟩ (fun h1 => ?_) (fun h1 => ?_)
  · refine g_null hX dX6_partOf_21 ?_
    refine g_goto (tgt := 31) hX dX6_partOf_22 (by decide) ?_
    refine g_aret hX hR dX6_partOf_31 (r := none) rfl ⟨_, rfl, by rw [if_neg (by omega)], rfl⟩
  · refine g_iload_n hX dX6_partOf_4 rfl ?_
    refine g_aload_n hX dX6_partOf_5 rfl ?_
    refine gf_X6_59 hX dX6_partOf_6 ?_
    refine g_icmp_ge (tgt := 21) hX dX6_partOf_9 (by decide) ⟨by omega, by omega⟩ ⟨by omega, by omega⟩ (fun h2 => ?_) (fun h2 => ?_)
    · refine g_null hX dX6_partOf_21 ?_
      refine g_goto (tgt := 31) hX dX6_partOf_22 (by decide) ?_
      refine g_aret hX hR dX6_partOf_31 (r := none) rfl ⟨_, rfl, by rw [if_neg (by omega)], rfl⟩
    · refine g_iload_n hX dX6_partOf_12 rfl ?_
      refine g_aload_n hX dX6_partOf_13 rfl ?_
      refine gf_X6_11 hX dX6_partOf_14 ?_
      refine g_alen hX dX6_partOf_17 (N := 40) (Or.inr (Or.inl ⟨rfl, rfl⟩)) ?_
      refine g_icmp_lt (tgt := 25) hX dX6_partOf_18 (by decide) ⟨by omega, by omega⟩ ⟨by omega, by omega⟩ (fun _ => ?_) (fun hc => absurd hc (by omega))
      refine g_aload_n hX dX6_partOf_25 rfl ?_
      refine gf_X6_11 hX dX6_partOf_26 ?_
      refine g_iload_n hX dX6_partOf_29 rfl ?_
      refine g_ald_parts (i := i.toNat) hX dX6_partOf_30 (by omega) (by omega) ?_
      refine g_aret hX hR dX6_partOf_31 (r := some i.toNat) rfl ⟨_, rfl, by rw [if_pos (by omega)], rfl⟩
set_option maxHeartbeats 4000000 in
theorem c_bedOf {lnch : Launch} {V : VX} (hI : InjV V) {μ : Mem} {i : Int} (hi : in32 i) : Ct lnch yX6_bedOf cX6_bedOf 2 (some (.object "StoneBeds$Bed")) 1 V [vr V 63, vi i] μ (pR V (fun r μ' => r = (if 0 ≤ i ∧ i < 3 then some (40 + i.toNat) else none) ∧ μ' = μ)) := by
  refine Ct_of (by decide) hI (Nat.le_of_ble_eq_true rfl) (fun E hE hX hR => ?_)
  have hX : OkX V E RX6 cX6_bedOf 2 1 := hX
  show G V E μ 0 [some (vr V 63), some (vi i)] []
  obtain ⟨hi1, hi2⟩ := hi
  refine g_iload_n hX dX6_bedOf_0 rfl ?_
  refine g_if_lt (tgt := 13) hX dX6_bedOf_1 (by decide) ⟨by omega, by omega⟩ (fun h1 => ?_) (fun h1 => ?_)
  · refine g_null hX dX6_bedOf_13 ?_
    refine g_goto (tgt := 23) hX dX6_bedOf_14 (by decide) ?_
    refine g_aret hX hR dX6_bedOf_23 (r := none) rfl ⟨_, rfl, by rw [if_neg (by omega)], rfl⟩
  · refine g_iload_n hX dX6_bedOf_4 rfl ?_
    refine g_aload_n hX dX6_bedOf_5 rfl ?_
    refine gf_X6_17 hX dX6_bedOf_6 ?_
    refine g_alen hX dX6_bedOf_9 (N := 3) (Or.inr (Or.inr (Or.inl ⟨rfl, rfl⟩))) ?_
    refine g_icmp_lt (tgt := 17) hX dX6_bedOf_10 (by decide) ⟨by omega, by omega⟩ ⟨by omega, by omega⟩ (fun h2 => ?_) (fun h2 => ?_)
    · refine g_aload_n hX dX6_bedOf_17 rfl ?_
      refine gf_X6_17 hX dX6_bedOf_18 ?_
      refine g_iload_n hX dX6_bedOf_21 rfl ?_
      refine g_ald_beds (i := i.toNat) hX dX6_bedOf_22 (by omega) (by omega) ?_
      refine g_aret hX hR dX6_bedOf_23 (r := some (40 + i.toNat)) rfl ⟨_, rfl, by rw [if_pos (by omega)], rfl⟩
    · refine g_null hX dX6_bedOf_13 ?_
      refine g_goto (tgt := 23) hX dX6_bedOf_14 (by decide) ?_
      refine g_aret hX hR dX6_bedOf_23 (r := none) rfl ⟨_, rfl, by rw [if_neg (by omega)], rfl⟩
set_option maxHeartbeats 4000000 in
theorem c_stackOf {lnch : Launch} {V : VX} (hI : InjV V) {μ : Mem} {i : Int} (hi : in32 i) : Ct lnch yX6_stackOf cX6_stackOf 2 (some (.object "StoneBeds$Pile")) 1 V [vr V 63, vi i] μ (pR V (fun r μ' => r = (if 0 ≤ i ∧ i < 5 then some (43 + i.toNat) else none) ∧ μ' = μ)) := by
  refine Ct_of (by decide) hI (Nat.le_of_ble_eq_true rfl) (fun E hE hX hR => ?_)
  have hX : OkX V E RX6 cX6_stackOf 2 1 := hX
  show G V E μ 0 [some (vr V 63), some (vi i)] []
  obtain ⟨hi1, hi2⟩ := hi
  refine g_iload_n hX dX6_stackOf_0 rfl ?_
  refine g_if_lt (tgt := 13) hX dX6_stackOf_1 (by decide) ⟨by omega, by omega⟩ (fun h1 => ?_) (fun h1 => ?_)
  · refine g_null hX dX6_stackOf_13 ?_
    refine g_goto (tgt := 23) hX dX6_stackOf_14 (by decide) ?_
    refine g_aret hX hR dX6_stackOf_23 (r := none) rfl ⟨_, rfl, by rw [if_neg (by omega)], rfl⟩
  · refine g_iload_n hX dX6_stackOf_4 rfl ?_
    refine g_aload_n hX dX6_stackOf_5 rfl ?_
    refine gf_X6_23 hX dX6_stackOf_6 ?_
    refine g_alen hX dX6_stackOf_9 (N := 5) (Or.inr (Or.inr (Or.inr (Or.inl ⟨rfl, rfl⟩)))) ?_
    refine g_icmp_lt (tgt := 17) hX dX6_stackOf_10 (by decide) ⟨by omega, by omega⟩ ⟨by omega, by omega⟩ (fun h2 => ?_) (fun h2 => ?_)
    · refine g_aload_n hX dX6_stackOf_17 rfl ?_
      refine gf_X6_23 hX dX6_stackOf_18 ?_
      refine g_iload_n hX dX6_stackOf_21 rfl ?_
      refine g_ald_stacks (i := i.toNat) hX dX6_stackOf_22 (by omega) (by omega) ?_
      refine g_aret hX hR dX6_stackOf_23 (r := some (43 + i.toNat)) rfl ⟨_, rfl, by rw [if_pos (by omega)], rfl⟩
    · refine g_null hX dX6_stackOf_13 ?_
      refine g_goto (tgt := 23) hX dX6_stackOf_14 (by decide) ?_
      refine g_aret hX hR dX6_stackOf_23 (r := none) rfl ⟨_, rfl, by rw [if_neg (by omega)], rfl⟩
abbrev areM (a b c : Int) : Prop := 1 ≤ a ∧ a ≤ 200 ∧ 0 ≤ b ∧ b ≤ 7 ∧ 1 ≤ c ∧ c ≤ 100
set_option maxHeartbeats 4000000 in
theorem c_areMeasures {lnch : Launch} {V : VX} (hI : InjV V) {μ : Mem} {a b c : Int} (ha : in32 a) (hb : in32 b) (hc : in32 c) : Ct lnch yX6_areMeasures cX6_areMeasures 3 (some .boolean) 1 V [vi a, vi b, vi c] μ (pI (fun z μ' => ((z = 1 ∧ areM a b c) ∨ (z = 0 ∧ ¬ areM a b c)) ∧ μ' = μ)) := by
  refine Ct_of (by decide) hI (Nat.le_of_ble_eq_true rfl) (fun E hE hX hR => ?_)
  have hX : OkX V E RX6 cX6_areMeasures 3 1 := hX
  show G V E μ 0 [some (vi a), some (vi b), some (vi c)] []
  obtain ⟨ha1, ha2⟩ := ha
  obtain ⟨hb1, hb2⟩ := hb
  obtain ⟨hc1, hc2⟩ := hc
  have no : ¬ areM a b c → G V E μ 37 [some (vi a), some (vi b), some (vi c)] [] := by
    intro hno
    refine g_iconst hX dX6_areMeasures_37 ?_
    refine g_zret hX hR dX6_areMeasures_38 (Or.inl rfl) ⟨_, rfl, Or.inr ⟨rfl, hno⟩, rfl⟩
  refine g_iload_n hX dX6_areMeasures_0 rfl ?_
  refine g_iconst hX dX6_areMeasures_1 ?_
  refine g_icmp_lt (tgt := 37) hX dX6_areMeasures_2 (by decide) ⟨by omega, by omega⟩ ⟨by omega, by omega⟩ (fun h1 => ?_) (fun h1 => ?_)
  · exact no (by omega)
  refine g_iload_n hX dX6_areMeasures_5 rfl ?_
  refine g_sipush hX dX6_areMeasures_6 rfl ?_
  refine g_icmp_gt (tgt := 37) hX dX6_areMeasures_9 (by decide) ⟨by omega, by omega⟩ ⟨by omega, by omega⟩ (fun h2 => ?_) (fun h2 => ?_)
  · exact no (by omega)
  refine g_iload_n hX dX6_areMeasures_12 rfl ?_
  refine g_if_lt (tgt := 37) hX dX6_areMeasures_13 (by decide) ⟨by omega, by omega⟩ (fun h3 => ?_) (fun h3 => ?_)
  · exact no (by omega)
  refine g_iload_n hX dX6_areMeasures_16 rfl ?_
  refine g_bipush hX dX6_areMeasures_17 rfl ?_
  refine g_icmp_ge (tgt := 37) hX dX6_areMeasures_19 (by decide) ⟨by omega, by omega⟩ ⟨by omega, by omega⟩ (fun h4 => ?_) (fun h4 => ?_)
  · exact no (by omega)
  refine g_iload_n hX dX6_areMeasures_22 rfl ?_
  refine g_iconst hX dX6_areMeasures_23 ?_
  refine g_icmp_lt (tgt := 37) hX dX6_areMeasures_24 (by decide) ⟨by omega, by omega⟩ ⟨by omega, by omega⟩ (fun h5 => ?_) (fun h5 => ?_)
  · exact no (by omega)
  refine g_iload_n hX dX6_areMeasures_27 rfl ?_
  refine g_bipush hX dX6_areMeasures_28 rfl ?_
  refine g_icmp_gt (tgt := 37) hX dX6_areMeasures_30 (by decide) ⟨by omega, by omega⟩ ⟨by omega, by omega⟩ (fun h6 => ?_) (fun h6 => ?_)
  · exact no (by omega)
  refine g_iconst hX dX6_areMeasures_33 ?_
  refine g_goto (tgt := 38) hX dX6_areMeasures_34 (by decide) ?_
  refine g_zret hX hR dX6_areMeasures_38 (Or.inr rfl) ⟨_, rfl, Or.inl ⟨rfl, by omega⟩, rfl⟩
set_option maxHeartbeats 4000000 in
theorem c_hasBit {lnch : Launch} {V : VX} (hI : InjV V) {μ : Mem} {b : Int} {i : Nat} (hi : i < 32) : Ct lnch yX6_hasBit cX6_hasBit 2 (some .boolean) 1 V [vi b, vi (i : Int)] μ (pI (fun z μ' => z = (if bitZ b i then 1 else 0) ∧ μ' = μ)) := by
  refine Ct_of (by decide) hI (Nat.le_of_ble_eq_true rfl) (fun E hE hX hR => ?_)
  have hX : OkX V E RX6 cX6_hasBit 2 1 := hX
  show G V E μ 0 [some (vi b), some (vi (i : Int))] []
  refine g_iload_n hX dX6_hasBit_0 rfl ?_
  refine g_iload_n hX dX6_hasBit_1 rfl ?_
  refine g_iushr hX dX6_hasBit_2 (ushZ_ok _ _) ?_
  refine g_iconst hX dX6_hasBit_3 ?_
  refine g_iand hX dX6_hasBit_4 ?_
  rw [bit_u b hi]
  by_cases hb : bitZ b i = true
  · rw [if_pos hb]
    refine g_if_eq (tgt := 12) hX dX6_hasBit_5 (by decide) ⟨by omega, by omega⟩ (fun hc => absurd hc (by omega)) (fun _ => ?_)
    refine g_iconst hX dX6_hasBit_8 ?_
    refine g_goto (tgt := 13) hX dX6_hasBit_9 (by decide) ?_
    refine g_zret hX hR dX6_hasBit_13 (Or.inr rfl) ⟨_, rfl, by rw [if_pos hb], rfl⟩
  · rw [if_neg hb]
    refine g_if_eq (tgt := 12) hX dX6_hasBit_5 (by decide) ⟨by omega, by omega⟩ (fun _ => ?_) (fun hc => absurd hc (by omega))
    refine g_iconst hX dX6_hasBit_12 ?_
    refine g_zret hX hR dX6_hasBit_13 (Or.inl rfl) ⟨_, rfl, by rw [if_neg hb], rfl⟩
set_option maxHeartbeats 4000000 in
theorem c_isDrawn {lnch : Launch} {V : VX} (hI : InjV V) {μ : Mem} {k : Nat} (hk : okd k = 4) (hw : in32 (μ k 4)) : Ct lnch yX6_isDrawn cX6_isDrawn 1 (some .boolean) 1 V [vr V k] μ (pI (fun z μ' => z = (if μ k 4 = 0 then 1 else 0) ∧ μ' = μ)) := by
  refine Ct_of (by decide) hI (Nat.le_of_ble_eq_true rfl) (fun E hE hX hR => ?_)
  have hX : OkX V E RX6 cX6_isDrawn 1 1 := hX
  show G V E μ 0 [some (vr V k)] []
  obtain ⟨hw1, hw2⟩ := hw
  refine g_aload_n hX dX6_isDrawn_0 rfl ?_
  refine g_ifnull hX dX6_isDrawn_1 ?_
  refine g_aload_n hX dX6_isDrawn_4 rfl ?_
  refine gf_X6_133 hX dX6_isDrawn_5 (by first | assumption | exact okd_part (by omega) | exact okd_bed (by omega) | exact okd_pile (by omega) | exact okd_dpile (by omega)) ?_
  refine g_if_ne (tgt := 15) hX dX6_isDrawn_8 (by decide) ⟨by omega, by omega⟩ (fun h1 => ?_) (fun h1 => ?_)
  · refine g_iconst hX dX6_isDrawn_15 ?_
    refine g_zret hX hR dX6_isDrawn_16 (Or.inl rfl) ⟨_, rfl, by rw [if_neg h1], rfl⟩
  · refine g_iconst hX dX6_isDrawn_11 ?_
    refine g_goto (tgt := 16) hX dX6_isDrawn_12 (by decide) ?_
    refine g_zret hX hR dX6_isDrawn_16 (Or.inr rfl) ⟨_, rfl, by rw [if_pos h1], rfl⟩
set_option maxHeartbeats 4000000 in
theorem c_camberOf {lnch : Launch} {V : VX} (hI : InjV V) {μ : Mem} {k : Nat} {r : Int} (hk : okd k = 4) (h0 : 0 ≤ μ k 0 ∧ μ k 0 ≤ 200) (h1 : 0 ≤ μ k 1 ∧ μ k 1 ≤ 7) (hr : 0 ≤ r ∧ r ≤ 10000000) : Ct lnch yX6_camberOf cX6_camberOf 3 (some .int) 1 V [vr V k, vi r] μ (pI (fun z μ' => z = μ k 0 * μ k 0 * (μ k 1 + 1) / (r + 1000) ∧ μ' = μ)) := by
  refine Ct_of (by decide) hI (Nat.le_of_ble_eq_true rfl) (fun E hE hX hR => ?_)
  have hX : OkX V E RX6 cX6_camberOf 3 1 := hX
  show G V E μ 0 [some (vr V k), some (vi r), none] []
  refine g_iload_n hX dX6_camberOf_0 rfl ?_
  refine g_sipush hX dX6_camberOf_1 rfl ?_
  refine g_iadd hX dX6_camberOf_4 ?_
  refine st_istore_n_3_2 hX dX6_camberOf_5 (by first | exact ck_i _ | exact ck_r _ _ | exact ck_n | exact ck_0) ?_
  refine g_iload_n hX dX6_camberOf_6 rfl ?_
  refine g_if_gt (tgt := 14) hX dX6_camberOf_7 (by decide) ⟨by omega, by omega⟩ (fun _ => ?_) (fun hc => absurd hc (by omega))
  have e1 : 0 ≤ μ k 0 * μ k 0 := Int.mul_nonneg h0.1 h0.1
  have e2 : μ k 0 * μ k 0 ≤ 200 * 200 := Int.mul_le_mul h0.2 h0.2 h0.1 (by decide)
  have e3 : 0 ≤ μ k 0 * μ k 0 * (μ k 1 + 1) := Int.mul_nonneg e1 (by omega)
  have e4 : μ k 0 * μ k 0 * (μ k 1 + 1) ≤ (200 * 200) * 8 := Int.mul_le_mul e2 (by omega) (by omega) (by decide)
  refine g_aload_n hX dX6_camberOf_14 rfl ?_
  refine gf_X6_108 hX dX6_camberOf_15 (by first | assumption | exact okd_part (by omega) | exact okd_bed (by omega) | exact okd_pile (by omega) | exact okd_dpile (by omega)) ?_
  refine g_aload_n hX dX6_camberOf_18 rfl ?_
  refine gf_X6_108 hX dX6_camberOf_19 (by first | assumption | exact okd_part (by omega) | exact okd_bed (by omega) | exact okd_pile (by omega) | exact okd_dpile (by omega)) ?_
  refine g_imul hX dX6_camberOf_22 ?_
  refine g_aload_n hX dX6_camberOf_23 rfl ?_
  refine gf_X6_230 hX dX6_camberOf_24 (by first | assumption | exact okd_part (by omega) | exact okd_bed (by omega) | exact okd_pile (by omega) | exact okd_dpile (by omega)) ?_
  refine g_iconst hX dX6_camberOf_27 ?_
  refine g_iadd hX dX6_camberOf_28 ?_
  refine g_imul hX dX6_camberOf_29 ?_
  refine g_iload_n hX dX6_camberOf_30 rfl ?_
  refine g_idiv hX dX6_camberOf_31 ⟨by omega, by omega⟩ ⟨by omega, by omega⟩ e3 (by omega) ?_
  refine g_iret hX hR dX6_camberOf_32 ⟨_, rfl, rfl, rfl⟩
def cntX (ν : Mem) (w : Int) : Nat → Nat
  | 0 => 0
  | k + 1 => cntX ν w k + if ν k 4 = w then 1 else 0
theorem cntX_le (ν : Mem) (w : Int) (k : Nat) : cntX ν w k ≤ k := by
  induction k with
  | zero => exact Nat.le_refl 0
  | succ k ih => unfold cntX; split <;> omega
set_option maxHeartbeats 4000000 in
theorem c_countWhere {lnch : Launch} {V : VX} (hI : InjV V) {μ : Mem} {n : Nat} {w : Int} (hn : μ 63 6 = (n : Int)) (hn4 : n ≤ 40) (hw : in32 w) (hp : ∀ i, i < n → in32 (μ i 4)) : Ct lnch yX6_countWhere cX6_countWhere 5 (some .int) 2 V [vr V 63, vi w] μ (pI (fun z μ' => z = (cntX μ w n : Int) ∧ μ' = μ)) := by
  refine Ct_of (by decide) hI (Nat.le_of_ble_eq_true rfl) (fun E hE hX hR => ?_)
  have hX : OkX V E RX6 cX6_countWhere 5 2 := hX
  show G V E μ 0 [some (vr V 63), some (vi w), none, none, none] []
  have loop : ∀ (d i : Nat), i + d = n → G V E μ 4 [some (vr V 63), some (vi w), some (vi (cntX μ w i : Int)), some (vi (i : Int)), none] [] := by
    intro d
    induction d with
    | zero =>
      intro i hi
      refine g_iload_n hX dX6_countWhere_4 rfl ?_
      refine g_aload_n hX dX6_countWhere_5 rfl ?_
      refine gf_X6_59 hX dX6_countWhere_6 ?_
      refine g_icmp_ge (tgt := 42) hX dX6_countWhere_9 (by decide) ⟨by omega, by omega⟩ ⟨by omega, by omega⟩ (fun _ => ?_) (fun hc => absurd hc (by omega))
      refine g_iload_n hX dX6_countWhere_42 rfl ?_
      refine g_iret hX hR dX6_countWhere_43 ⟨_, rfl, by rw [show n = i by omega], rfl⟩
    | succ d ih =>
      intro i hi
      have hc := cntX_le μ w i
      have hpi := hp i (by omega)
      refine g_iload_n hX dX6_countWhere_4 rfl ?_
      refine g_aload_n hX dX6_countWhere_5 rfl ?_
      refine gf_X6_59 hX dX6_countWhere_6 ?_
      refine g_icmp_ge (tgt := 42) hX dX6_countWhere_9 (by decide) ⟨by omega, by omega⟩ ⟨by omega, by omega⟩ (fun hc => absurd hc (by omega)) (fun _ => ?_)
      refine g_aload_n hX dX6_countWhere_12 rfl ?_
      refine g_iload_n hX dX6_countWhere_13 rfl ?_
      refine g_v1R hX lk_X6_66 dX6_countWhere_14 (c0 := 6) ok63 ⟨_, rfl, rfl⟩ (c_partOf hI hn hn4 ⟨by omega, by omega⟩) (by first | decide | omega) (by decide) rfl (Nat.le_of_ble_eq_true rfl) (fun r μ' hp => ?_)
      obtain ⟨rfl, hm⟩ := hp
      rw [hm]
      clear hm μ'
      rw [if_pos (by omega), show ((i : Int)).toNat = i from rfl]
      show G V E μ 17 _ (vr V i :: [])
      refine st_astore_5_4 hX dX6_countWhere_17 (by first | exact ck_i _ | exact ck_r _ _ | exact ck_n | exact ck_0) ?_
      refine g_aload hX dX6_countWhere_19 rfl ?_
      refine g_ifnull hX dX6_countWhere_21 ?_
      refine g_aload hX dX6_countWhere_24 rfl ?_
      refine gf_X6_133 hX dX6_countWhere_26 (by first | assumption | exact okd_part (by omega) | exact okd_bed (by omega) | exact okd_pile (by omega) | exact okd_dpile (by omega)) ?_
      refine g_iload_n hX dX6_countWhere_29 rfl ?_
      refine g_icmp_ne (tgt := 36) hX dX6_countWhere_30 (by decide) hpi hw (fun hc => ?_) (fun hc => ?_)
      · refine st_iinc_5_3 hX dX6_countWhere_36 (by first | exact ck_i _ | exact ck_r _ _ | exact ck_n | exact ck_0) ?_
        refine g_goto (tgt := 4) hX dX6_countWhere_39 (by decide) ?_
        refine fg_5_4 ?_
        have := ih (i + 1) (by omega)
        unfold cntX at this
        rw [if_neg hc, Nat.add_zero] at this
        exact this
      · refine st_iinc_5_2 hX dX6_countWhere_33 (by first | exact ck_i _ | exact ck_r _ _ | exact ck_n | exact ck_0) ?_
        refine st_iinc_5_3 hX dX6_countWhere_36 (by first | exact ck_i _ | exact ck_r _ _ | exact ck_n | exact ck_0) ?_
        refine g_goto (tgt := 4) hX dX6_countWhere_39 (by decide) ?_
        refine fg_5_4 ?_
        have := ih (i + 1) (by omega)
        unfold cntX at this
        rw [if_pos hc] at this
        exact this
  refine g_iconst hX dX6_countWhere_0 ?_
  refine st_istore_n_5_2 hX dX6_countWhere_1 (by first | exact ck_i _ | exact ck_r _ _ | exact ck_n | exact ck_0) ?_
  refine g_iconst hX dX6_countWhere_2 ?_
  refine st_istore_n_5_3 hX dX6_countWhere_3 (by first | exact ck_i _ | exact ck_r _ _ | exact ck_n | exact ck_0) ?_
  exact loop n 0 (by omega)
