/-! the class's calls, the plain ones: what each answers and leaves is the reference's, by its words for m -/
def XP (μ : Mem) (sp : Int × Mem) : Int → Mem → Prop := fun z μ' => z = sp.1 ∧ RelXM μ' sp.2 ∧ vw μ' = vw μ
def spPart (m : Mem) (l p w : Int) : Int × Mem := if areM l p w then (if m 0 0 < 40 then (m 0 0, newM m (m 0 0).toNat l p w 0) else (-3, m)) else (-1, m)
def spNeed (m : Mem) (p n : Int) : Int × Mem := if (0 ≤ p ∧ p < m 0 0) ∧ 0 ≤ n ∧ n ≤ 1000 then (m 4 p.toNat, mset m 4 p.toNat n) else (-1, m)
def spWarm (m : Mem) (w : Int) : Int × Mem := if -20 ≤ w ∧ w ≤ 60 then (m 0 13, mset m 0 13 w) else (-100, m)
def ripeV (m : Mem) (n : Int) (b : Nat) : Int := m 11 b + (if 0 < m 9 b ∧ 0 < m 0 13 + 10 then n * (m 0 13 + 10) else 0)
def hourM (m : Mem) (n : Int) : Mem := mset (mset (mset (mset m 11 0 (ripeV m n 0)) 11 1 (ripeV m n 1)) 11 2 (ripeV m n 2)) 0 14 (m 0 14 + n)
def spHours (m : Mem) (n : Int) : Int × Mem := if 1 ≤ n ∧ n ≤ 200 then (if m 0 14 + n ≤ 100000 then (m 0 14 + n, hourM m n) else (-3, m)) else (-1, m)
theorem rel_n {ν m : Mem} {c : Nat} (hR : RelXM ν m) (hI : IM c m) : ∃ n : Nat, n ≤ 40 ∧ m 0 0 = (n : Int) ∧ ν 63 6 = (n : Int) := by
  have h1 := hI.1.1
  exact ⟨(m 0 0).toNat, by omega, by omega, by rw [hR.1.1]; omega⟩
theorem rel_p {ν m : Mem} {i j : Nat} (hR : RelXM ν m) (hi : (i : Int) < m 0 0) (h40 : i < 40) (hj : j < 8) : ν i j = m (1 + j) i := by
  rw [hR.2.1 i j h40 hj]; unfold pvF; rw [if_pos hi]
theorem xf0 {ν m : Mem} {i : Nat} (hR : RelXM ν m) (hi : (i : Int) < m 0 0) (h40 : i < 40) : ν i 0 = m 1 i := rel_p (j := 0) hR hi h40 (by decide)
theorem xf1 {ν m : Mem} {i : Nat} (hR : RelXM ν m) (hi : (i : Int) < m 0 0) (h40 : i < 40) : ν i 1 = m 2 i := rel_p (j := 1) hR hi h40 (by decide)
theorem xf2 {ν m : Mem} {i : Nat} (hR : RelXM ν m) (hi : (i : Int) < m 0 0) (h40 : i < 40) : ν i 2 = m 3 i := rel_p (j := 2) hR hi h40 (by decide)
theorem xf3 {ν m : Mem} {i : Nat} (hR : RelXM ν m) (hi : (i : Int) < m 0 0) (h40 : i < 40) : ν i 3 = m 4 i := rel_p (j := 3) hR hi h40 (by decide)
theorem xf4 {ν m : Mem} {i : Nat} (hR : RelXM ν m) (hi : (i : Int) < m 0 0) (h40 : i < 40) : ν i 4 = m 5 i := rel_p (j := 4) hR hi h40 (by decide)
theorem xf5 {ν m : Mem} {i : Nat} (hR : RelXM ν m) (hi : (i : Int) < m 0 0) (h40 : i < 40) : ν i 5 = m 6 i := rel_p (j := 5) hR hi h40 (by decide)
theorem xf6 {ν m : Mem} {i : Nat} (hR : RelXM ν m) (hi : (i : Int) < m 0 0) (h40 : i < 40) : ν i 6 = m 7 i := rel_p (j := 6) hR hi h40 (by decide)
theorem xf7 {ν m : Mem} {i : Nat} (hR : RelXM ν m) (hi : (i : Int) < m 0 0) (h40 : i < 40) : ν i 7 = m 8 i := rel_p (j := 7) hR hi h40 (by decide)
theorem vw_newX {ν : Mem} {n : Nat} {l p w nd : Int} (hn : n < 40) : vw (newX ν n l p w nd) = vw ν := by
  unfold newX
  rw [vw_out (by omega), vw_out (by omega), vw_out (by omega), vw_out (by omega), vw_out (by omega)]
set_option maxHeartbeats 4000000 in
theorem c_draw {lnch : Launch} {V : VX} (hI : InjV V) {μ : Mem} {n : Nat} {a b c d : Int} (hn : μ 63 6 = (n : Int)) (hn4 : n < 40) : Ct lnch yX6_draw cX6_draw 7 (some .int) 2 V [vr V 63, vi a, vi b, vi c, vi d] μ (pI (fun z μ' => z = (n : Int) ∧ μ' = newX μ n a b c d)) := by
  refine Ct_of (by decide) hI (Nat.le_of_ble_eq_true rfl) (fun E hE hX hR => ?_)
  have hX : OkX V E RX6 cX6_draw 7 2 := hX
  show G V E μ 0 [some (vr V 63), some (vi a), some (vi b), some (vi c), some (vi d), none, none] []
  refine g_aload_n hX dX6_draw_0 rfl ?_
  refine gf_X6_59 hX dX6_draw_1 ?_
  refine st_istore_7_5 hX dX6_draw_4 (by first | exact ck_i _ | exact ck_r _ _ | exact ck_n | exact ck_0) ?_
  refine g_aload_n hX dX6_draw_6 rfl ?_
  refine g_dup hX dX6_draw_7 rfl ?_
  refine gf_X6_59 hX dX6_draw_8 ?_
  refine g_iconst hX dX6_draw_11 ?_
  refine g_iadd hX dX6_draw_12 ?_
  refine pf_X6_59 hX dX6_draw_13 ?_
  refine g_aload_n hX dX6_draw_16 rfl ?_
  refine g_iload hX dX6_draw_17 rfl ?_
  refine g_v1R hX lk_X6_66 dX6_draw_19 (c0 := 6) ok63 ⟨_, rfl, rfl⟩ (c_partOf (n := n + 1) hI (by rw [mset_same, hn]; rfl) (by omega) ⟨by omega, by omega⟩) (by first | decide | omega) (by decide) rfl (Nat.le_of_ble_eq_true rfl) (fun r μ' hp => ?_)
  obtain ⟨rfl, hm⟩ := hp
  rw [hm]
  clear hm μ'
  rw [if_pos (by omega), show (μ 63 6).toNat = n by omega]
  show G V E _ 22 _ (vr V n :: [])
  refine st_astore_7_6 hX dX6_draw_22 (by first | exact ck_i _ | exact ck_r _ _ | exact ck_n | exact ck_0) ?_
  refine g_aload hX dX6_draw_24 rfl ?_
  refine g_ifnull hX dX6_draw_26 ?_
  refine g_aload hX dX6_draw_29 rfl ?_
  refine g_iload_n hX dX6_draw_31 rfl ?_
  refine g_iload_n hX dX6_draw_32 rfl ?_
  refine g_iload_n hX dX6_draw_33 rfl ?_
  refine g_v3V hX lk_X6_233 dX6_draw_34 (c0 := 4) (by first | assumption | exact okd_part (by omega) | exact okd_bed (by omega) | exact okd_pile (by omega) | exact okd_dpile (by omega)) ⟨_, rfl, rfl⟩ (c_measure hI (okd_part (by omega))) (by first | decide | omega) (by decide) rfl (Nat.le_of_ble_eq_true rfl) (fun μ' hp => ?_)
  rw [hp]
  clear hp μ'
  refine g_aload hX dX6_draw_37 rfl ?_
  refine g_iload hX dX6_draw_39 rfl ?_
  refine pf_X6_70 hX dX6_draw_41 (by first | assumption | exact okd_part (by omega) | exact okd_bed (by omega) | exact okd_pile (by omega) | exact okd_dpile (by omega)) ?_
  refine g_iload hX dX6_draw_44 rfl ?_
  refine g_iret hX hR dX6_draw_46 ⟨_, rfl, hn, by rw [hn]; rfl⟩
set_option maxHeartbeats 4000000 in
theorem x_part {lnch : Launch} {V : VX} (hI : InjV V) {μ : Mem} {m : Mem} {c : Nat} {a b d : Int} (hR0 : RelXM μ m) (hM : IM c m) (ha : in32 a) (hb : in32 b) (hd : in32 d) : Ct lnch yX6_part cX6_part 4 (some .int) 3 V [vr V 63, vi a, vi b, vi d] μ (pI (XP μ (spPart m a b d))) := by
  refine Ct_of (by decide) hI (Nat.le_of_ble_eq_true rfl) (fun E hE hX hR => ?_)
  have hX : OkX V E RX6 cX6_part 4 3 := hX
  show G V E μ 0 [some (vr V 63), some (vi a), some (vi b), some (vi d)] []
  obtain ⟨n, hn40, hmn, hn⟩ := rel_n hR0 hM
  unfold spPart at hR
  refine g_iload_n hX dX6_part_0 rfl ?_
  refine g_iload_n hX dX6_part_1 rfl ?_
  refine g_iload_n hX dX6_part_2 rfl ?_
  refine g_s3I hX lk_X6_55 dX6_part_3 (c_areMeasures hI ha hb hd) (by decide) (by decide) rfl (Nat.le_of_ble_eq_true rfl) (fun z μ' hp => ?_)
  obtain ⟨hz, hm⟩ := hp
  rw [hm]; clear hm μ'
  rcases hz with ⟨rfl, hz⟩ | ⟨rfl, hz⟩
  · rw [if_pos hz] at hR
    refine g_if_ne (tgt := 11) hX dX6_part_6 (by decide) ⟨by omega, by omega⟩ (fun _ => ?_) (fun hc => absurd hc (by omega))
    refine g_aload_n hX dX6_part_11 rfl ?_
    refine gf_X6_59 hX dX6_part_12 ?_
    refine g_bipush hX dX6_part_15 rfl ?_
    refine g_icmp_lt (tgt := 23) hX dX6_part_17 (by decide) ⟨by omega, by omega⟩ ⟨by omega, by omega⟩ (fun h1 => ?_) (fun h1 => ?_)
    · rw [if_pos (by omega)] at hR
      refine g_aload_n hX dX6_part_23 rfl ?_
      refine g_iload_n hX dX6_part_24 rfl ?_
      refine g_iload_n hX dX6_part_25 rfl ?_
      refine g_iload_n hX dX6_part_26 rfl ?_
      refine g_iconst hX dX6_part_27 ?_
      refine g_v4I hX lk_X6_62 dX6_part_28 (c0 := 6) ok63 ⟨_, rfl, rfl⟩ (c_draw (n := n) hI hn (by omega)) (by first | decide | omega) (by decide) rfl (Nat.le_of_ble_eq_true rfl) (fun z μ' hp => ?_)
      obtain ⟨rfl, hm⟩ := hp
      rw [hm]
      clear hm μ'
      refine g_iret hX hR dX6_part_31 ⟨_, rfl, by omega, ?_, vw_newX (by omega)⟩
      rw [show (m 0 0).toNat = n by omega]
      exact R_new hR0 hM hmn (by omega)
    · rw [if_neg (by omega)] at hR
      refine g_bipush hX dX6_part_20 rfl ?_
      refine g_iret hX hR dX6_part_22 ⟨_, rfl, rfl, hR0, rfl⟩
  · rw [if_neg hz] at hR
    refine g_if_ne (tgt := 11) hX dX6_part_6 (by decide) ⟨by omega, by omega⟩ (fun hc => absurd hc (by omega)) (fun _ => ?_)
    refine g_iconst hX dX6_part_9 ?_
    refine g_iret hX hR dX6_part_10 ⟨_, rfl, rfl, hR0, rfl⟩
set_option maxHeartbeats 4000000 in
theorem x_need {lnch : Launch} {V : VX} (hI : InjV V) {μ : Mem} {m : Mem} {c : Nat} {p n : Int} (hR0 : RelXM μ m) (hM : IM c m) (hp : in32 p) (hn : in32 n) : Ct lnch yX6_need cX6_need 5 (some .int) 2 V [vr V 63, vi p, vi n] μ (pI (XP μ (spNeed m p n))) := by
  refine Ct_of (by decide) hI (Nat.le_of_ble_eq_true rfl) (fun E hE hX hR => ?_)
  have hX : OkX V E RX6 cX6_need 5 2 := hX
  show G V E μ 0 [some (vr V 63), some (vi p), some (vi n), none, none] []
  obtain ⟨N, hN40, hmN, hN⟩ := rel_n hR0 hM
  unfold spNeed at hR
  obtain ⟨hn1, hn2⟩ := hn
  refine g_aload_n hX dX6_need_0 rfl ?_
  refine g_iload_n hX dX6_need_1 rfl ?_
  refine g_v1R hX lk_X6_66 dX6_need_2 (c0 := 6) ok63 ⟨_, rfl, rfl⟩ (c_partOf hI hN hN40 hp) (by first | decide | omega) (by decide) rfl (Nat.le_of_ble_eq_true rfl) (fun r μ' hp => ?_)
  obtain ⟨rfl, hm⟩ := hp
  rw [hm]
  clear hm μ'
  by_cases h1 : 0 ≤ p ∧ p < (N : Int)
  · rw [if_pos h1]
    have e3 : μ p.toNat 3 = m 4 p.toNat := rel_p (j := 3) hR0 (by omega) (by omega) (by decide)
    show G V E μ 5 _ (vr V p.toNat :: [])
    have no : ¬ (0 ≤ n ∧ n ≤ 1000) → G V E μ 21 [some (vr V 63), some (vi p), some (vi n), some (vr V p.toNat), none] [] := fun h => by
      rw [if_neg (by omega)] at hR
      refine g_iconst hX dX6_need_21 ?_
      refine g_iret hX hR dX6_need_22 ⟨_, rfl, rfl, hR0, rfl⟩
    refine st_astore_n_5_3 hX dX6_need_5 (by first | exact ck_i _ | exact ck_r _ _ | exact ck_n | exact ck_0) ?_
    refine g_aload_n hX dX6_need_6 rfl ?_
    refine g_ifnull hX dX6_need_7 ?_
    refine g_iload_n hX dX6_need_10 rfl ?_
    refine g_if_lt (tgt := 21) hX dX6_need_11 (by decide) ⟨by omega, by omega⟩ (fun h2 => ?_) (fun h2 => ?_)
    · exact no (by omega)
    refine g_iload_n hX dX6_need_14 rfl ?_
    refine g_sipush hX dX6_need_15 rfl ?_
    refine g_icmp_le (tgt := 23) hX dX6_need_18 (by decide) ⟨by omega, by omega⟩ ⟨by omega, by omega⟩ (fun h3 => ?_) (fun h3 => ?_)
    · rw [if_pos (by omega)] at hR
      refine g_aload_n hX dX6_need_23 rfl ?_
      refine gf_X6_70 hX dX6_need_24 (by first | assumption | exact okd_part (by omega) | exact okd_bed (by omega) | exact okd_pile (by omega) | exact okd_dpile (by omega)) ?_
      refine st_istore_5_4 hX dX6_need_27 (by first | exact ck_i _ | exact ck_r _ _ | exact ck_n | exact ck_0) ?_
      refine g_aload_n hX dX6_need_29 rfl ?_
      refine g_iload_n hX dX6_need_30 rfl ?_
      refine pf_X6_70 hX dX6_need_31 (by first | assumption | exact okd_part (by omega) | exact okd_bed (by omega) | exact okd_pile (by omega) | exact okd_dpile (by omega)) ?_
      refine g_iload hX dX6_need_34 rfl ?_
      refine g_iret hX hR dX6_need_36 ⟨_, rfl, e3, R_pf (j := 3) hR0 (by omega) (by omega) (by decide) (fun h => absurd h (by decide)) (fun h => absurd h (by decide)), vw_out (by omega)⟩
    · exact no (by omega)
  · rw [if_neg h1]
    rw [if_neg (by omega)] at hR
    show G V E μ 5 _ (Value.null :: [])
    refine st_astore_nN_5_3 hX dX6_need_5 (by first | exact ck_i _ | exact ck_r _ _ | exact ck_n | exact ck_0) ?_
    refine g_aload_nN hX dX6_need_6 rfl ?_
    refine g_ifnullN (tgt := 21) hX dX6_need_7 (by decide) ?_
    refine g_iconst hX dX6_need_21 ?_
    refine g_iret hX hR dX6_need_22 ⟨_, rfl, rfl, hR0, rfl⟩
set_option maxHeartbeats 4000000 in
theorem x_warmth {lnch : Launch} {V : VX} (hI : InjV V) {μ : Mem} {m : Mem} {w : Int} (hR0 : RelXM μ m) (hw : in32 w) : Ct lnch yX6_warmth cX6_warmth 3 (some .int) 1 V [vr V 63, vi w] μ (pI (XP μ (spWarm m w))) := by
  refine Ct_of (by decide) hI (Nat.le_of_ble_eq_true rfl) (fun E hE hX hR => ?_)
  have hX : OkX V E RX6 cX6_warmth 3 1 := hX
  show G V E μ 0 [some (vr V 63), some (vi w), none] []
  unfold spWarm at hR
  obtain ⟨hw1, hw2⟩ := hw
  have no : ¬ (-20 ≤ w ∧ w ≤ 60) → G V E μ 12 [some (vr V 63), some (vi w), none] [] := fun h => by
    rw [if_neg h] at hR
    refine g_bipush hX dX6_warmth_12 rfl ?_
    refine g_iret hX hR dX6_warmth_14 ⟨_, rfl, rfl, hR0, rfl⟩
  refine g_iload_n hX dX6_warmth_0 rfl ?_
  refine g_bipush hX dX6_warmth_1 rfl ?_
  refine g_icmp_lt (tgt := 12) hX dX6_warmth_3 (by decide) ⟨by omega, by omega⟩ ⟨by omega, by omega⟩ (fun h1 => ?_) (fun h1 => ?_)
  · exact no (by omega)
  refine g_iload_n hX dX6_warmth_6 rfl ?_
  refine g_bipush hX dX6_warmth_7 rfl ?_
  refine g_icmp_le (tgt := 15) hX dX6_warmth_9 (by decide) ⟨by omega, by omega⟩ ⟨by omega, by omega⟩ (fun h2 => ?_) (fun h2 => ?_)
  · rw [if_pos (by omega)] at hR
    refine g_aload_n hX dX6_warmth_15 rfl ?_
    refine gf_X6_51 hX dX6_warmth_16 ?_
    refine st_istore_n_3_2 hX dX6_warmth_19 (by first | exact ck_i _ | exact ck_r _ _ | exact ck_n | exact ck_0) ?_
    refine g_aload_n hX dX6_warmth_20 rfl ?_
    refine g_iload_n hX dX6_warmth_21 rfl ?_
    refine pf_X6_51 hX dX6_warmth_22 ?_
    refine g_iload_n hX dX6_warmth_25 rfl ?_
    refine g_iret hX hR dX6_warmth_26 ⟨_, rfl, hR0.1.2.2.2.2, R_sc hR0 (by decide), vw_out (by omega)⟩
  · exact no (by omega)
/-- the beds up to k, an hour's n later -/
def hrX (ν m : Mem) (n : Int) (k : Nat) : Mem := fun c j => if 40 ≤ c ∧ c < 40 + k ∧ j = 2 then ripeV m n (c - 40) else if c = 63 ∧ j = 9 then m 0 14 + n else ν c j
theorem hrX_0 {ν m : Mem} {n : Int} : mset ν 63 9 (m 0 14 + n) = hrX ν m n 0 := by
  funext c j
  unfold hrX mset
  rw [if_neg (show ¬ (40 ≤ c ∧ c < 40 + 0 ∧ j = 2) by omega)]
theorem hrX_s {ν m : Mem} {n : Int} {k : Nat} (hk : k < 3) : mset (hrX ν m n k) (40 + k) 2 (ripeV m n k) = hrX ν m n (k + 1) := by
  funext c j
  unfold hrX mset
  try dsimp only
  by_cases h : c = 40 + k ∧ j = 2
  · rw [if_pos h, if_pos (by omega), show c - 40 = k by omega]
  · rw [if_neg h]
    by_cases h2 : 40 ≤ c ∧ c < 40 + k ∧ j = 2
    · rw [if_pos h2, if_pos (by omega)]
    · rw [if_neg h2, if_neg (show ¬ (40 ≤ c ∧ c < 40 + (k + 1) ∧ j = 2) by omega)]
theorem hrX_z {ν m : Mem} {n : Int} {k : Nat} (h : ν (40 + k) 2 = ripeV m n k) : hrX ν m n k = hrX ν m n (k + 1) := by
  funext c j
  unfold hrX
  try dsimp only
  by_cases h2 : 40 ≤ c ∧ c < 40 + k ∧ j = 2
  · rw [if_pos h2, if_pos (by omega)]
  · rw [if_neg h2]
    by_cases h3 : c = 40 + k ∧ j = 2
    · rw [if_pos (show 40 ≤ c ∧ c < 40 + (k + 1) ∧ j = 2 by omega), if_neg (by omega), h3.1, h3.2, h, show 40 + k - 40 = k by omega]
    · rw [if_neg (show ¬ (40 ≤ c ∧ c < 40 + (k + 1) ∧ j = 2) by omega)]
theorem R_hr {ν m : Mem} {n : Int} (hR : RelXM ν m) : RelXM (hrX ν m n 3) (hourM m n) := by
  obtain ⟨hA, hB, hC, hD, hE⟩ := hR
  have ex : ∀ c j : Nat, ¬ (40 ≤ c ∧ c < 43 ∧ j = 2) → ¬ (c = 63 ∧ j = 9) → hrX ν m n 3 c j = ν c j := fun c j h1 h2 => by
    unfold hrX
    rw [if_neg (by omega), if_neg h2]
  have em : ∀ c j : Nat, c ≠ 11 → (c ≠ 0 ∨ j ≠ 14) → hourM m n c j = m c j := fun c j h1 h2 => by
    unfold hourM
    rw [mset_ne h2, mset_ne (Or.inl h1), mset_ne (Or.inl h1), mset_ne (Or.inl h1)]
  refine ⟨?_, fun i j' hi hj' => ?_, fun b hb3 => ?_, fun t ht => ?_, ?_⟩
  · rw [ex 63 6 (by omega) (by omega), ex 63 7 (by omega) (by omega), ex 63 8 (by omega) (by omega), ex 63 10 (by omega) (by omega), em 0 0 (by omega) (by omega), em 0 20 (by omega) (by omega), em 0 19 (by omega) (by omega), em 0 13 (by omega) (by omega)]
    refine ⟨hA.1, hA.2.1, hA.2.2.1, ?_, hA.2.2.2.2⟩
    unfold hrX hourM
    rw [if_neg (by omega), if_pos ⟨rfl, rfl⟩, mset_same]
  · have hBi := hB i j' hi hj'
    unfold pvF at hBi ⊢
    rw [ex i j' (by omega) (by omega), em 0 0 (by omega) (by omega), em (1 + j') i (by omega) (Or.inl (by omega))]
    exact hBi
  · rw [bedlen_cg (m := m) (em 9 b (by omega) (by omega)) (fun k hk => ⟨em 10 _ (by omega) (by omega), em 1 _ (by omega) (by omega)⟩)]
    rw [ex (40 + b) 0 (by omega) (by omega), ex (40 + b) 1 (by omega) (by omega), ex (40 + b) 3 (by omega) (by omega), em 9 b (by omega) (by omega), em 12 b (by omega) (by omega)]
    have hc := hC b hb3
    refine ⟨hc.1, hc.2.1, ?_, hc.2.2.2⟩
    unfold hrX
    rw [if_pos (by omega), show 40 + b - 40 = b by omega]
    have hb : b = 0 ∨ b = 1 ∨ b = 2 := by omega
    unfold hourM
    rcases hb with rfl | rfl | rfl <;> simp (disch := omega) only [mset_ne, mset_same]
  · rw [ex (43 + t) 1 (by omega) (by omega), em 13 t (by omega) (by omega)]
    refine ⟨(hD t ht).1, fun k hk => ?_⟩
    rw [ex (48 + t) k (by omega) (by omega), em 14 _ (by omega) (by omega)]
    exact (hD t ht).2 k hk
  · obtain ⟨h1, h2, h3, h4, h5⟩ := hE
    have e3 : ∀ k, k < (m 0 17).toNat → hourM m n 15 k = m 15 k ∧ hourM m n 3 (m 15 k).toNat = m 3 (m 15 k).toNat := fun k _ => ⟨em 15 _ (by omega) (by omega), em 3 _ (by omega) (by omega)⟩
    rw [em 0 17 (by omega) (by omega), heavyK_cg e3, frontK_cg e3, rearK_cg e3, ex 67 1 (by omega) (by omega), ex 67 2 (by omega) (by omega), ex 67 3 (by omega) (by omega), ex 67 4 (by omega) (by omega)]
    refine ⟨h1, h2, h3, h4, fun k hk => ?_⟩
    rw [ex 68 k (by omega) (by omega), em 15 k (by omega) (by omega)]
    exact h5 k hk
theorem vw_hrX {ν m : Mem} {n : Int} {k : Nat} (hk : k ≤ 3) : vw (hrX ν m n k) = vw ν := by
  funext c j
  unfold vw hrX
  rw [if_neg (by omega), if_neg (by omega)]
set_option maxHeartbeats 4000000 in
theorem x_hours {lnch : Launch} {V : VX} (hI : InjV V) {μ : Mem} {m : Mem} {c : Nat} {n : Int} (hR0 : RelXM μ m) (hM : IM c m) (hn : in32 n) : Ct lnch yX6_hours cX6_hours 5 (some .int) 2 V [vr V 63, vi n] μ (pI (XP μ (spHours m n))) := by
  refine Ct_of (by decide) hI (Nat.le_of_ble_eq_true rfl) (fun E hE hX hR => ?_)
  have hX : OkX V E RX6 cX6_hours 5 2 := hX
  show G V E μ 0 [some (vr V 63), some (vi n), none, none, none] []
  unfold spHours at hR
  obtain ⟨hn1, hn2⟩ := hn
  obtain ⟨⟨hs1, hs2⟩, ⟨hs3, hs4⟩, -⟩ := hM.2.1
  obtain ⟨-, -, -, hh, hw⟩ := hR0.1
  have hb := hM.2.2.1
  have no : ¬ (1 ≤ n ∧ n ≤ 200) → G V E μ 12 [some (vr V 63), some (vi n), none, none, none] [] := fun h => by
    rw [if_neg h] at hR
    refine g_iconst hX dX6_hours_12 ?_
    refine g_iret hX hR dX6_hours_13 ⟨_, rfl, rfl, hR0, rfl⟩
  refine g_iload_n hX dX6_hours_0 rfl ?_
  refine g_iconst hX dX6_hours_1 ?_
  refine g_icmp_lt (tgt := 12) hX dX6_hours_2 (by decide) ⟨by omega, by omega⟩ ⟨by omega, by omega⟩ (fun h1 => ?_) (fun h1 => ?_)
  · exact no (by omega)
  refine g_iload_n hX dX6_hours_5 rfl ?_
  refine g_sipush hX dX6_hours_6 rfl ?_
  refine g_icmp_le (tgt := 14) hX dX6_hours_9 (by decide) ⟨by omega, by omega⟩ ⟨by omega, by omega⟩ (fun h2 => ?_) (fun h2 => ?_)
  rotate_left
  · exact no (by omega)
  rw [if_pos (by omega)] at hR
  refine g_aload_n hX dX6_hours_14 rfl ?_
  refine gf_X6_111 hX dX6_hours_15 ?_
  refine g_iload_n hX dX6_hours_18 rfl ?_
  refine g_iadd hX dX6_hours_19 ?_
  refine g_ldc (z := 100000) hX dX6_hours_20 tw_307 ?_
  refine g_icmp_le (tgt := 28) hX dX6_hours_22 (by decide) ⟨by omega, by omega⟩ ⟨by omega, by omega⟩ (fun h3 => ?_) (fun h3 => ?_)
  rotate_left
  · rw [if_neg (by omega)] at hR
    refine g_bipush hX dX6_hours_25 rfl ?_
    refine g_iret hX hR dX6_hours_27 ⟨_, rfl, rfl, hR0, rfl⟩
  rw [if_pos (by omega)] at hR
  refine g_aload_n hX dX6_hours_28 rfl ?_
  refine g_dup hX dX6_hours_29 rfl ?_
  refine gf_X6_111 hX dX6_hours_30 ?_
  refine g_iload_n hX dX6_hours_33 rfl ?_
  refine g_iadd hX dX6_hours_34 ?_
  refine pf_X6_111 hX dX6_hours_35 ?_
  refine g_iconst hX dX6_hours_38 ?_
  refine g_aload_n hX dX6_hours_39 rfl ?_
  refine gf_X6_51 hX dX6_hours_40 ?_
  refine g_bipush hX dX6_hours_43 rfl ?_
  refine g_iadd hX dX6_hours_45 ?_
  simp (disch := omega) only [mset_ne, mset_same]
  refine g_mmax hX rfl (by decide) dX6_hours_46 ⟨by omega, by omega⟩ ⟨by omega, by omega⟩ (Nat.le_of_ble_eq_true rfl) ?_
  refine g_iload_n hX dX6_hours_49 rfl ?_
  refine g_imul hX dX6_hours_50 ?_
  refine st_istore_n_5_2 hX dX6_hours_51 (by first | exact ck_i _ | exact ck_r _ _ | exact ck_n | exact ck_0) ?_
  refine g_iconst hX dX6_hours_52 ?_
  refine st_istore_n_5_3 hX dX6_hours_53 (by first | exact ck_i _ | exact ck_r _ _ | exact ck_n | exact ck_0) ?_
  rw [hh, hw, hrX_0]
  have loop : ∀ (d k : Nat), k + d = 3 → G V E (hrX μ m n k) 54 [some (vr V 63), some (vi n), some (vi (max 0 (m 0 13 + 10) * n)), some (vi (k : Int)), none] [] := by
    intro d
    induction d with
    | zero =>
      intro k hk
      obtain rfl : k = 3 := by omega
      refine g_iload_n hX dX6_hours_54 rfl ?_
      refine g_iconst hX dX6_hours_55 ?_
      refine g_icmp_ge (tgt := 96) hX dX6_hours_56 (by decide) ⟨by omega, by omega⟩ ⟨by omega, by omega⟩ (fun _ => ?_) (fun hc => absurd hc (by omega))
      refine g_aload_n hX dX6_hours_96 rfl ?_
      refine gf_X6_111 hX dX6_hours_97 ?_
      refine g_iret hX hR dX6_hours_100 ⟨_, rfl, ?_, R_hr hR0, vw_hrX (by decide)⟩
      unfold hrX
      rw [if_neg (by omega), if_pos ⟨rfl, rfl⟩]
    | succ d ih =>
      intro k hk
      have hbk := hb k (by omega)
      have hck := hR0.2.2.1 k (by omega)
      have e0 : hrX μ m n k (40 + k) 0 = m 9 k := by unfold hrX; rw [if_neg (by omega), if_neg (by omega)]; exact hck.1
      have e2 : hrX μ m n k (40 + k) 2 = m 11 k := by unfold hrX; rw [if_neg (by omega), if_neg (by omega)]; exact hck.2.2.1
      refine g_iload_n hX dX6_hours_54 rfl ?_
      refine g_iconst hX dX6_hours_55 ?_
      refine g_icmp_ge (tgt := 96) hX dX6_hours_56 (by decide) ⟨by omega, by omega⟩ ⟨by omega, by omega⟩ (fun hc => absurd hc (by omega)) (fun _ => ?_)
      refine g_aload_n hX dX6_hours_59 rfl ?_
      refine g_iload_n hX dX6_hours_60 rfl ?_
      refine g_v1R hX lk_X6_88 dX6_hours_61 (c0 := 6) ok63 ⟨_, rfl, rfl⟩ (c_bedOf hI ⟨by omega, by omega⟩) (by first | decide | omega) (by decide) rfl (Nat.le_of_ble_eq_true rfl) (fun r μ' hp => ?_)
      obtain ⟨rfl, hm⟩ := hp
      rw [hm]
      clear hm μ'
      rw [if_pos (by omega), show ((k : Int)).toNat = k from rfl]
      show G V E _ 64 _ (vr V (40 + k) :: [])
      refine st_astore_5_4 hX dX6_hours_64 (by first | exact ck_i _ | exact ck_r _ _ | exact ck_n | exact ck_0) ?_
      refine g_aload hX dX6_hours_66 rfl ?_
      refine g_ifnull hX dX6_hours_68 ?_
      refine g_aload hX dX6_hours_71 rfl ?_
      refine gf_X6_96 hX dX6_hours_73 (by first | assumption | exact okd_part (by omega) | exact okd_bed (by omega) | exact okd_pile (by omega) | exact okd_dpile (by omega)) ?_
      rw [e0]
      refine g_if_le (tgt := 90) hX dX6_hours_76 (by decide) ⟨by omega, by omega⟩ (fun h4 => ?_) (fun h4 => ?_)
      · refine st_iinc_5_3 hX dX6_hours_90 (by first | exact ck_i _ | exact ck_r _ _ | exact ck_n | exact ck_0) ?_
        refine g_goto (tgt := 54) hX dX6_hours_93 (by decide) ?_
        refine fg_5_4 ?_
        have e : hrX μ m n k = hrX μ m n (k + 1) := hrX_z (by rw [hck.2.2.1]; unfold ripeV; rw [if_neg (by omega), Int.add_zero])
        rw [e]
        exact ih (k + 1) (by omega)
      · refine g_aload hX dX6_hours_79 rfl ?_
        refine g_dup hX dX6_hours_81 rfl ?_
        refine gf_X6_127 hX dX6_hours_82 (by first | assumption | exact okd_part (by omega) | exact okd_bed (by omega) | exact okd_pile (by omega) | exact okd_dpile (by omega)) ?_
        rw [e2]
        refine g_iload_n hX dX6_hours_85 rfl ?_
        refine g_iadd hX dX6_hours_86 ?_
        refine pf_X6_127 hX dX6_hours_87 (by first | assumption | exact okd_part (by omega) | exact okd_bed (by omega) | exact okd_pile (by omega) | exact okd_dpile (by omega)) ?_
        refine st_iinc_5_3 hX dX6_hours_90 (by first | exact ck_i _ | exact ck_r _ _ | exact ck_n | exact ck_0) ?_
        refine g_goto (tgt := 54) hX dX6_hours_93 (by decide) ?_
        refine fg_5_4 ?_
        have e : m 11 k + max 0 (m 0 13 + 10) * n = ripeV m n k := by
          unfold ripeV
          by_cases h5 : 0 < m 0 13 + 10
          · rw [if_pos ⟨by omega, h5⟩, Int.max_eq_right (by omega), Int.mul_comm]
          · rw [if_neg (by omega), Int.max_eq_left (by omega), Int.zero_mul]
        rw [e, hrX_s (by omega)]
        exact ih (k + 1) (by omega)
  exact loop 3 0 (by omega)
