/-! an order, and the digger's copy of the yard -/
def digN (o : Int) (i : Nat) : Nat := o.toNat / 2 ^ (i * 6) % 64
theorem i63_nat (x : Nat) : (Int32.ofInt (x : Int) &&& Int32.ofInt 63).toInt = ((x % 64 : Nat) : Int) := by
  have e : (Int32.ofInt (x : Int) &&& Int32.ofInt 63).toBitVec = BitVec.ofNat 32 (x &&& 63) := by
    rw [Int32.toBitVec_and, Int32.toBitVec_ofInt, BitVec.ofInt_natCast]
    exact BitVec.ofNat_and.symm
  show (Int32.ofInt (x : Int) &&& Int32.ofInt 63).toBitVec.toInt = _
  rw [e, and_63, BitVec.toInt_eq_toNat_of_lt (by rw [BitVec.toNat_ofNat]; omega), BitVec.toNat_ofNat]
  omega
set_option maxHeartbeats 4000000 in
theorem c_ordered {lnch : Launch} {V : VX} (hI : InjV V) {μ : Mem} {x i : Nat} (hx : x < 9223372036854775808) (hi : i ≤ 6) : Ct lnch yX6_ordered cX6_ordered 3 (some .int) 1 V [vl (x : Int), vi (i : Int)] μ (pI (fun z μ' => z = (digN (x : Int) i : Int) ∧ μ' = μ)) := by
  refine Ct_of (by decide) hI (Nat.le_of_ble_eq_true rfl) (fun E hE hX hR => ?_)
  have hX : OkX V E RX6 cX6_ordered 3 1 := hX
  show G V E μ 0 [some (vl (x : Int)), none, some (vi (i : Int))] []
  refine g_lload_n hX dX6_ordered_0 rfl ?_
  refine g_iload_n hX dX6_ordered_1 rfl ?_
  refine g_bipush hX dX6_ordered_2 rfl ?_
  refine g_imul hX dX6_ordered_4 ?_
  rw [show (i : Int) * 6 = ((i * 6 : Nat) : Int) from rfl]
  refine g_lushr hX dX6_ordered_5 (ushr_nat (by omega) (by omega)) ?_
  refine g_l2i hX dX6_ordered_6 ?_
  refine g_bipush hX dX6_ordered_7 rfl ?_
  refine g_iand hX dX6_ordered_9 ?_
  rw [i63_nat]
  refine g_iret hX hR dX6_ordered_10 ⟨_, rfl, rfl, rfl⟩
def KQ (μ μ' : Mem) : Prop := ∀ k, k < 53 ∨ (63 ≤ k ∧ k ≤ 71) ∨ k = 73 ∨ 76 ≤ k → μ' k = μ k
theorem KQ.rf {μ : Mem} : KQ μ μ := fun _ _ => rfl
theorem KQ.tr {a b c : Mem} (h : KQ a b) (h' : KQ b c) : KQ a c := fun k hk => (h' k hk).trans (h k hk)
theorem KD.q {t : Nat} {μ ν : Mem} (h : KD t μ ν) : KQ μ ν := fun k hk => h.1 k (by omega) (by omega)
theorem KQ.st {μ ν : Mem} {k j : Nat} {v : Int} (h : KQ μ ν) (hk : (53 ≤ k ∧ k ≤ 62) ∨ k = 72 ∨ k = 74) : KQ μ (mset ν k j v) := h.tr (fun q hq => mset_cell (by omega))
set_option maxHeartbeats 4000000 in
theorem c_dclear {lnch : Launch} {V : VX} (hI : InjV V) {μ : Mem}  : Ct lnch yX1_clear cX1_clear 2 none 1 V [vr V 72] μ (pV (fun μ' => (∀ j, j < 40 → μ' 74 j = 6) ∧ μ' 72 3 = 0 ∧ KQ μ μ')) := by
  refine Ct_of (by decide) hI (Nat.le_of_ble_eq_true rfl) (fun E hE hX hR => ?_)
  have hX : OkX V E RX1 cX1_clear 2 1 := hX
  show G V E μ 0 [some (vr V 72), none] []
  have loop : ∀ (d i : Nat) (ν : Mem), i + d = 40 → (∀ j, j < i → ν 74 j = 6) → KQ μ ν → G V E ν 2 [some (vr V 72), some (vi (i : Int))] [] := by
    intro d
    induction d with
    | zero =>
      intro i ν hi hj hK
      refine g_iload_n hX dX1_clear_2 rfl ?_
      refine g_aload_n hX dX1_clear_3 rfl ?_
      refine gf_X1_17 hX dX1_clear_4 ?_
      refine g_alen hX dX1_clear_7 (N := 40) (Or.inl ⟨rfl, by decide⟩) ?_
      refine g_icmp_ge (tgt := 25) hX dX1_clear_8 (by decide) ⟨by omega, by omega⟩ ⟨by omega, by omega⟩ (fun _ => ?_) (fun hc => absurd hc (by omega))
      refine g_aload_n hX dX1_clear_25 rfl ?_
      refine g_iconst hX dX1_clear_26 ?_
      refine pf_X1_25 hX dX1_clear_27 ?_
      refine g_vret hX hR dX1_clear_30 ⟨rfl, fun j hj' => by rw [mset_cell (by omega)]; exact hj j (by omega), mset_same, hK.st (by omega)⟩
    | succ d ih =>
      intro i ν hi hj hK
      refine g_iload_n hX dX1_clear_2 rfl ?_
      refine g_aload_n hX dX1_clear_3 rfl ?_
      refine gf_X1_17 hX dX1_clear_4 ?_
      refine g_alen hX dX1_clear_7 (N := 40) (Or.inl ⟨rfl, by decide⟩) ?_
      refine g_icmp_ge (tgt := 25) hX dX1_clear_8 (by decide) ⟨by omega, by omega⟩ ⟨by omega, by omega⟩ (fun hc => absurd hc (by omega)) (fun _ => ?_)
      refine g_aload_n hX dX1_clear_11 rfl ?_
      refine gf_X1_17 hX dX1_clear_12 ?_
      refine g_iload_n hX dX1_clear_15 rfl ?_
      refine g_bipush hX dX1_clear_16 rfl ?_
      refine g_iastN (i := i) hX dX1_clear_18 (N := 40) rfl (by omega) (by omega) (by decide) ?_
      refine st_iinc_2_1 hX dX1_clear_19 (by first | exact ck_i _ | exact ck_r _ _ | exact ck_n | exact ck_0) ?_
      refine g_goto (tgt := 2) hX dX1_clear_22 (by decide) ?_
      refine ih (i + 1) _ (by omega) (fun j hj' => ?_) (hK.st (by omega))
      by_cases e : j = i
      · rw [e, mset_same]
      · rw [mset_ne (Or.inr e)]; exact hj j (by omega)
  refine g_iconst hX dX1_clear_0 ?_
  refine st_istore_n_2_1 hX dX1_clear_1 (by first | exact ck_i _ | exact ck_r _ _ | exact ck_n | exact ck_0) ?_
  exact loop 40 0 μ (by omega) (fun j hj => absurd hj (by omega)) KQ.rf
set_option maxHeartbeats 4000000 in
theorem c_wants {lnch : Launch} {V : VX} (hI : InjV V) {μ : Mem} {p w : Nat} (hp : p < 40) (hw : μ 72 3 = (w : Int)) (ht : 0 ≤ μ 74 p ∧ μ 74 p ≤ 6) : Ct lnch yX1_wants cX1_wants 2 (some .boolean) 1 V [vr V 72, vi (p : Int)] μ (pI (fun z μ' => (z = 1 ∧ μ 74 p = 6 ∧ μ' = mset (mset μ 74 p (w : Int)) 72 3 ((w : Int) + 1)) ∨ (z = 0 ∧ μ 74 p < 6 ∧ μ' = μ))) := by
  refine Ct_of (by decide) hI (Nat.le_of_ble_eq_true rfl) (fun E hE hX hR => ?_)
  have hX : OkX V E RX1 cX1_wants 2 1 := hX
  show G V E μ 0 [some (vr V 72), some (vi (p : Int))] []
  refine g_iload_n hX dX1_wants_0 rfl ?_
  refine g_if_lt (tgt := 24) hX dX1_wants_1 (by decide) ⟨by omega, by omega⟩ (fun hc => absurd hc (by omega)) (fun _ => ?_)
  refine g_iload_n hX dX1_wants_4 rfl ?_
  refine g_aload_n hX dX1_wants_5 rfl ?_
  refine gf_X1_17 hX dX1_wants_6 ?_
  refine g_alen hX dX1_wants_9 (N := 40) (Or.inl ⟨rfl, by decide⟩) ?_
  refine g_icmp_ge (tgt := 24) hX dX1_wants_10 (by decide) ⟨by omega, by omega⟩ ⟨by omega, by omega⟩ (fun hc => absurd hc (by omega)) (fun _ => ?_)
  refine g_aload_n hX dX1_wants_13 rfl ?_
  refine gf_X1_17 hX dX1_wants_14 ?_
  refine g_iload_n hX dX1_wants_17 rfl ?_
  refine g_ialdN (i := p) hX dX1_wants_18 (N := 40) rfl (by omega) (by omega) (by decide) ?_
  refine g_bipush hX dX1_wants_19 rfl ?_
  refine g_icmp_ge (tgt := 26) hX dX1_wants_21 (by decide) ⟨by omega, by omega⟩ ⟨by omega, by omega⟩ (fun h1 => ?_) (fun h1 => ?_)
  · refine g_aload_n hX dX1_wants_26 rfl ?_
    refine gf_X1_17 hX dX1_wants_27 ?_
    refine g_iload_n hX dX1_wants_30 rfl ?_
    refine g_aload_n hX dX1_wants_31 rfl ?_
    refine gf_X1_25 hX dX1_wants_32 ?_
    rw [hw]
    refine g_iastN (i := p) hX dX1_wants_35 (N := 40) rfl (by omega) (by omega) (by decide) ?_
    refine g_aload_n hX dX1_wants_36 rfl ?_
    refine g_dup hX dX1_wants_37 rfl ?_
    refine gf_X1_25 hX dX1_wants_38 ?_
    rw [mset_ne (Or.inl (by decide)), hw]
    refine g_iconst hX dX1_wants_41 ?_
    refine g_iadd hX dX1_wants_42 ?_
    refine pf_X1_25 hX dX1_wants_43 ?_
    refine g_iconst hX dX1_wants_46 ?_
    refine g_zret hX hR dX1_wants_47 (Or.inr rfl) ⟨_, rfl, Or.inl ⟨rfl, by omega, rfl⟩⟩
  · refine g_iconst hX dX1_wants_24 ?_
    refine g_zret hX hR dX1_wants_25 (Or.inl rfl) ⟨_, rfl, Or.inr ⟨rfl, by omega, rfl⟩⟩
set_option maxHeartbeats 4000000 in
theorem c_copy {lnch : Launch} {V : VX} (hI : InjV V) {μ : Mem} {s h : Nat} (hs : s < 5) (hh : μ (43 + s) 1 = (h : Int)) (h4 : h ≤ 4) (hr : ∀ k, k < h → 0 ≤ μ (43 + s + 5) k ∧ μ (43 + s + 5) k < 40) : Ct lnch yX1_copyStack cX1_copyStack 6 none 2 V [vr V 72, vi (s : Int), vr V (43 + s)] μ (pV (fun μ' => (∀ k, k ≠ 53 + s → k ≠ 53 + s + 5 → μ' k = μ k) ∧ μ' (53 + s) 1 = (h : Int) ∧ stkL (μ' (53 + s + 5)) h = (stkL (μ (43 + s + 5)) h).map (fun p => μ 74 p.toNat))) := by
  refine Ct_of (by decide) hI (Nat.le_of_ble_eq_true rfl) (fun E hE hX hR => ?_)
  have hX : OkX V E RX1 cX1_copyStack 6 2 := hX
  show G V E μ 0 [some (vr V 72), some (vi (s : Int)), some (vr V (43 + s)), none, none, none] []
  have loop : ∀ (d j : Nat) (ν : Mem) (z5 : Option Value), j + d = h → (∀ k, k ≠ 53 + s → k ≠ 53 + s + 5 → ν k = μ k) → ν (53 + s) 1 = (j : Int) → stkL (ν (53 + s + 5)) j = (stkL (μ (43 + s + 5)) j).map (fun p => μ 74 p.toNat) → G V E ν 22 [some (vr V 72), some (vi (s : Int)), some (vr V (43 + s)), some (vr V (53 + s)), some (vi (j : Int)), z5] [] := by
    intro d
    induction d with
    | zero =>
      intro j ν z5 hj hK hhν hl
      have e43 : ν (43 + s) 1 = (h : Int) := by rw [hK (43 + s) (by omega) (by omega)]; exact hh
      refine g_iload hX dX1_copyStack_22 rfl ?_
      refine g_aload_n hX dX1_copyStack_24 rfl ?_
      refine gf_X1_36 hX dX1_copyStack_25 (by first | assumption | exact okd_part (by omega) | exact okd_bed (by omega) | exact okd_pile (by omega) | exact okd_dpile (by omega)) ?_
      rw [e43]
      refine g_icmp_ge (tgt := 76) hX dX1_copyStack_28 (by decide) ⟨by omega, by omega⟩ ⟨by omega, by omega⟩ (fun _ => ?_) (fun hc => absurd hc (by omega))
      refine g_vret hX hR dX1_copyStack_76 ⟨rfl, hK, by rw [hhν, show j = h by omega], by rw [← show j = h by omega]; exact hl⟩
    | succ d ih =>
      intro j ν z5 hj hK hhν hl
      have e43 : ν (43 + s) 1 = (h : Int) := by rw [hK (43 + s) (by omega) (by omega)]; exact hh
      have e48 : ν (43 + s + 5) = μ (43 + s + 5) := hK (43 + s + 5) (by omega) (by omega)
      have hrj := hr j (by omega)
      refine g_iload hX dX1_copyStack_22 rfl ?_
      refine g_aload_n hX dX1_copyStack_24 rfl ?_
      refine gf_X1_36 hX dX1_copyStack_25 (by first | assumption | exact okd_part (by omega) | exact okd_bed (by omega) | exact okd_pile (by omega) | exact okd_dpile (by omega)) ?_
      rw [e43]
      refine g_icmp_ge (tgt := 76) hX dX1_copyStack_28 (by decide) ⟨by omega, by omega⟩ ⟨by omega, by omega⟩ (fun hc => absurd hc (by omega)) (fun _ => ?_)
      refine g_aload_n hX dX1_copyStack_31 rfl ?_
      refine g_iload hX dX1_copyStack_32 rfl ?_
      refine g_v1I hX lk_X1_39 dX1_copyStack_34 (c0 := 5) (by first | assumption | exact okd_part (by omega) | exact okd_bed (by omega) | exact okd_pile (by omega) | exact okd_dpile (by omega)) ⟨_, rfl, rfl⟩ (c_from hI (okd_pile (by omega)) e43 h4 ⟨by omega, by omega⟩) (by first | decide | omega) (by decide) rfl (Nat.le_of_ble_eq_true rfl) (fun z μ' hp => ?_)
      obtain ⟨rfl, hm⟩ := hp
      rw [hm]
      clear hm μ'
      rw [if_pos (by omega), show ((j : Int)).toNat = j from rfl, e48]
      refine st_istore_6_5 hX dX1_copyStack_37 (by first | exact ck_i _ | exact ck_r _ _ | exact ck_n | exact ck_0) ?_
      refine g_aload_n hX dX1_copyStack_39 rfl ?_
      refine g_iload hX dX1_copyStack_40 rfl ?_
      refine g_if_lt (tgt := 55) hX dX1_copyStack_42 (by decide) ⟨by omega, by omega⟩ (fun hc => absurd hc (by omega)) (fun _ => ?_)
      refine g_iload hX dX1_copyStack_45 rfl ?_
      refine g_aload_n hX dX1_copyStack_47 rfl ?_
      refine gf_X1_17 hX dX1_copyStack_48 ?_
      refine g_alen hX dX1_copyStack_51 (N := 40) (Or.inl ⟨rfl, by decide⟩) ?_
      refine g_icmp_lt (tgt := 60) hX dX1_copyStack_52 (by decide) ⟨by omega, by omega⟩ ⟨by omega, by omega⟩ (fun _ => ?_) (fun hc => absurd hc (by omega))
      refine g_aload_n hX dX1_copyStack_60 rfl ?_
      refine gf_X1_17 hX dX1_copyStack_61 ?_
      refine g_iload hX dX1_copyStack_64 rfl ?_
      refine g_ialdN (i := (μ (43 + s + 5) j).toNat) hX dX1_copyStack_66 (N := 40) rfl (by omega) (by omega) (by decide) ?_
      rw [hK 74 (by omega) (by omega)]
      refine g_v1V hX lk_X1_43 dX1_copyStack_67 (c0 := 5) (by first | assumption | exact okd_part (by omega) | exact okd_bed (by omega) | exact okd_pile (by omega) | exact okd_dpile (by omega)) ⟨_, rfl, rfl⟩ (c_put hI (okd_dpile (by omega)) hhν (by omega)) (by first | decide | omega) (by decide) rfl (Nat.le_of_ble_eq_true rfl) (fun μ' hp => ?_)
      rw [hp]
      clear hp μ'
      refine st_iinc_6_4 hX dX1_copyStack_70 (by first | exact ck_i _ | exact ck_r _ _ | exact ck_n | exact ck_0) ?_
      refine g_goto (tgt := 22) hX dX1_copyStack_73 (by decide) ?_
      refine ih (j + 1) _ _ (by omega) (fun k h1 h2 => by rw [mset_cell (fun q => h1 q.symm), mset_cell (fun q => h2 q.symm)]; exact hK k h1 h2) (by rw [mset_same]; rfl) ?_
      rw [mset_cell (by omega)]
      show mset ν (53 + s + 5) j _ (53 + s + 5) j :: stkL _ j = _ :: List.map _ (stkL _ j)
      rw [mset_same, stkL_cg (row' := ν (53 + s + 5)) j (fun i hi => mset_ne (Or.inr (by omega))), hl]
  refine g_aload_n hX dX1_copyStack_0 rfl ?_
  refine g_iload_n hX dX1_copyStack_1 rfl ?_
  refine g_v1R hX lk_X1_29 dX1_copyStack_2 (c0 := 1) ok72 ⟨_, rfl, rfl⟩ (c_pileOf hI ⟨by omega, by omega⟩) (by first | decide | omega) (by decide) rfl (Nat.le_of_ble_eq_true rfl) (fun r μ' hp => ?_)
  obtain ⟨rfl, hm⟩ := hp
  rw [hm]
  clear hm μ'
  rw [if_pos (by omega), show ((s : Int)).toNat = s from rfl]
  show G V E μ 5 _ (vr V (53 + s) :: [])
  refine st_astore_n_6_3 hX dX1_copyStack_5 (by first | exact ck_i _ | exact ck_r _ _ | exact ck_n | exact ck_0) ?_
  refine g_aload_n hX dX1_copyStack_6 rfl ?_
  refine g_ifnull hX dX1_copyStack_7 ?_
  refine g_aload_n hX dX1_copyStack_10 rfl ?_
  refine g_ifnonnull (tgt := 15) hX dX1_copyStack_11 (by decide) ?_
  refine g_aload_n hX dX1_copyStack_15 rfl ?_
  refine g_v0V hX lk_X1_33 dX1_copyStack_16 (c0 := 5) (by first | assumption | exact okd_part (by omega) | exact okd_bed (by omega) | exact okd_pile (by omega) | exact okd_dpile (by omega)) ⟨_, rfl, rfl⟩ (c_pclear hI (okd_dpile (by omega))) (by first | decide | omega) (by decide) rfl (Nat.le_of_ble_eq_true rfl) (fun μ' hp => ?_)
  rw [hp]
  clear hp μ'
  refine g_iconst hX dX1_copyStack_19 ?_
  refine st_istore_6_4 hX dX1_copyStack_20 (by first | exact ck_i _ | exact ck_r _ _ | exact ck_n | exact ck_0) ?_
  exact loop h 0 _ _ (by omega) (fun k h1 _ => mset_cell (fun q => h1 q.symm)) mset_same rfl
