/-! the call diggings -/
theorem lcz {c : Int} : (if (0 : Int) < c then 1 else if c = 0 then 0 else -1 : Int) = 0 ↔ c = 0 := by
  by_cases h : (0 : Int) < c
  · rw [if_pos h]; omega
  · rw [if_neg h]
    by_cases h2 : c = 0
    · rw [if_pos h2]; exact ⟨fun _ => h2, fun _ => rfl⟩
    · rw [if_neg h2]; omega
theorem lcz_in {c : Int} : in32 (if (0 : Int) < c then 1 else if c = 0 then 0 else -1 : Int) := by
  split
  · exact ⟨by decide, by decide⟩
  · split
    · exact ⟨by decide, by decide⟩
    · exact ⟨by decide, by decide⟩
theorem KQ.rel {μ ν m : Mem} (h : RelXM μ m) (hk : KQ μ ν) : RelXM ν m := R_scr h (fun k hk' => hk k (by omega))
theorem KQ.vw {μ ν : Mem} (hk : KQ μ ν) : vw ν = vw μ := vw_scr (fun k hk' => hk k (by omega))
theorem pow_36 {n : Nat} (h : n ≤ 6) : 2 ^ (n * 6) ≤ 68719476736 := by
  have := Nat.pow_le_pow_right (n := 2) (by decide) (show n * 6 ≤ 36 by omega)
  exact this
set_option maxHeartbeats 4000000 in
theorem x_diggings {lnch : Launch} {V : VX} (hI : InjV V) {μ : Mem} {m : Mem} {c : Nat} {n o : Int} (hR0 : RelXM μ m) (hM : IM c m) (hn : in32 n) (ho : in64 o) : Ct lnch yX6_diggings cX6_diggings 6 (some .int) 50 V [vr V 63, vi n, vl o] μ (pI (XPc μ m (ansD m n o))) := by
  refine Ct_of (by decide) hI (Nat.le_of_ble_eq_true rfl) (fun E hE hX hR => ?_)
  have hX : OkX V E RX6 cX6_diggings 6 50 := hX
  show G V E μ 0 [some (vr V 63), some (vi n), some (vl o), none, none, none] []
  obtain ⟨N, hN40, hmN, hN⟩ := rel_n hR0 hM
  have hnn := hn
  have hoo := ho
  obtain ⟨hn1, hn2⟩ := hnn
  obtain ⟨ho1, ho2⟩ := hoo
  have bad : ¬ okO m n o → ∀ (z4 z5 : Option Value), G V E μ 21 [some (vr V 63), some (vi n), some (vl o), none, z4, z5] [] := fun h z4 z5 => by
    refine g_iconst hX dX6_diggings_21 ?_
    refine g_iret hX hR dX6_diggings_22 ⟨_, rfl, Or.inl ⟨h, rfl⟩, hR0, rfl⟩
  refine g_iload_n hX dX6_diggings_0 rfl ?_
  refine g_if_lt (tgt := 21) hX dX6_diggings_1 (by decide) ⟨by omega, by omega⟩ (fun h1 => ?_) (fun h1 => ?_)
  · exact bad (fun h => absurd h.1.1 (by omega)) _ _
  refine g_iload_n hX dX6_diggings_4 rfl ?_
  refine g_bipush hX dX6_diggings_5 rfl ?_
  refine g_icmp_gt (tgt := 21) hX dX6_diggings_7 (by decide) ⟨by omega, by omega⟩ ⟨by omega, by omega⟩ (fun h2 => ?_) (fun h2 => ?_)
  · exact bad (fun h => absurd h.1.2 (by omega)) _ _
  obtain ⟨r, rfl⟩ : ∃ r : Nat, n = (r : Int) := ⟨n.toNat, by omega⟩
  have hr6 : r ≤ 6 := by omega
  obtain ⟨c0, hc1, hc2, hc3, hc4⟩ := ush_sp (a := o) (by omega) (by omega) (b := r * 6) (by omega)
  refine g_lload_n hX dX6_diggings_10 rfl ?_
  refine g_iload_n hX dX6_diggings_11 rfl ?_
  refine g_bipush hX dX6_diggings_12 rfl ?_
  refine g_imul hX dX6_diggings_14 ?_
  rw [show (r : Int) * 6 = ((r * 6 : Nat) : Int) from rfl]
  refine g_lushr hX dX6_diggings_15 hc2 ?_
  refine g_lconst hX dX6_diggings_16 (z := 0) rfl ?_
  refine g_lcmp hX dX6_diggings_17 ⟨by omega, by omega⟩ ⟨by decide, by decide⟩ ?_
  have hz := lcz (c := c0)
  have hzi := lcz_in (c := c0)
  refine g_if_eq (tgt := 23) hX dX6_diggings_18 (by decide) hzi (fun h3 => ?_) (fun h3 => ?_)
  rotate_left
  · exact bad (fun h => h3 (hz.mpr (hc3.mpr h.2.1))) _ _
  have hrange := hc3.mp (hz.mp h3)
  have hp36 := pow_36 hr6
  obtain ⟨x, rfl⟩ : ∃ x : Nat, o = (x : Int) := ⟨o.toNat, by omega⟩
  rw [show ((x : Int)).toNat = x from rfl] at hrange
  clear hz hzi hc1 hc2 hc3 hc4 h3 c0
  have hd64 : ∀ i, digN (x : Int) i < 64 := fun i => Nat.mod_lt _ (by decide)
  -- the turns are given, the yard is copied
  have three : okO m (r : Int) (x : Int) → inY m (r : Int) (x : Int) → ∀ (e i : Nat) (ν : Mem) (z5 : Option Value), i + e = 5 → KQ μ ν → ν 72 3 = (r : Int) → (∀ p : Nat, p < 40 → ν 74 p = tnK (fun i => (digN (x : Int) i : Int)) r (p : Int)) →
      (∀ s, s < i → ν (53 + s) 1 = (((m 13 s).toNat : Nat) : Int) ∧ stkL (ν (53 + s + 5)) (m 13 s).toNat = Y0 m (fun i => (digN (x : Int) i : Int)) r s) → G V E ν 136 [some (vr V 63), some (vi (r : Int)), some (vl (x : Int)), none, some (vi (i : Int)), z5] [] := by
    intro hok hiy e
    obtain ⟨y1, y2, y3⟩ := Y0_ok hM hok hiy
    rw [show ((r : Int)).toNat = r from rfl] at y1 y2 y3
    induction e with
    | zero =>
      intro i ν z5 hi hK h72 h74 hp
      have hD : DgX ν (Y0 m (fun i => (digN (x : Int) i : Int)) r) := fun s hs => by
        rw [y3 s hs]
        refine ⟨by rw [← y3 s hs]; exact y1.2.2.1 s hs, (hp s (by omega)).1, (hp s (by omega)).2, fun y hy => ?_⟩
        have := y1.2.2.2.1 s hs y hy
        omega
      refine g_iload hX dX6_diggings_136 rfl ?_
      refine g_iconst hX dX6_diggings_138 ?_
      refine g_icmp_ge (tgt := 163) hX dX6_diggings_139 (by decide) ⟨by omega, by omega⟩ ⟨by omega, by omega⟩ (fun _ => ?_) (fun hc => absurd hc (by omega))
      refine g_aload_n hX dX6_diggings_163 rfl ?_
      refine gf_X6_44 hX dX6_diggings_164 ?_
      refine g_v0I hX lk_X6_198 dX6_diggings_167 (c0 := 1) ok72 ⟨_, rfl, rfl⟩ (c_fewm hI hD y1 h72 y2) (by first | decide | omega) (by decide) rfl (Nat.le_of_ble_eq_true rfl) (fun z μ' hp => ?_)
      obtain ⟨⟨k, rfl, hk⟩, hKd⟩ := hp
      have hK2 := hK.tr hKd.q
      refine g_iret hX hR dX6_diggings_170 ⟨_, rfl, Or.inr (Or.inr ⟨hok, hiy, k, rfl, hk⟩), hK2.rel hR0, hK2.vw⟩
    | succ e ih =>
      intro i ν z5 hi hK h72 h74 hp
      have hRν := hK.rel hR0
      obtain ⟨d1, d2⟩ := hRν.2.2.2.1 i (by omega)
      obtain ⟨⟨b1, b2⟩, b3, -⟩ := hM.2.2.2.1.1 i (by omega)
      have hh : ν (43 + i) 1 = (((m 13 i).toNat : Nat) : Int) := by rw [d1]; omega
      have hrow : ∀ k, k < (m 13 i).toNat → ν (43 + i + 5) k = m 14 (4 * i + k) := fun k hk => by
        rw [show 43 + i + 5 = 48 + i by omega]
        exact d2 k (by omega)
      have hr40 : ∀ k, k < (m 13 i).toNat → 0 ≤ ν (43 + i + 5) k ∧ ν (43 + i + 5) k < 40 := fun k hk => by
        rw [hrow k hk]
        have := b3 k (by omega)
        omega
      refine g_iload hX dX6_diggings_136 rfl ?_
      refine g_iconst hX dX6_diggings_138 ?_
      refine g_icmp_ge (tgt := 163) hX dX6_diggings_139 (by decide) ⟨by omega, by omega⟩ ⟨by omega, by omega⟩ (fun hc => absurd hc (by omega)) (fun _ => ?_)
      refine g_aload_n hX dX6_diggings_142 rfl ?_
      refine gf_X6_44 hX dX6_diggings_143 ?_
      refine g_iload hX dX6_diggings_146 rfl ?_
      refine g_aload_n hX dX6_diggings_148 rfl ?_
      refine g_iload hX dX6_diggings_149 rfl ?_
      refine g_v1R hX lk_X6_156 dX6_diggings_151 (c0 := 6) ok63 ⟨_, rfl, rfl⟩ (c_stackOf hI ⟨by omega, by omega⟩) (by first | decide | omega) (by decide) rfl (Nat.le_of_ble_eq_true rfl) (fun r μ' hp => ?_)
      obtain ⟨rfl, hm⟩ := hp
      rw [hm]
      clear hm μ'
      rw [if_pos (by omega), show ((i : Int)).toNat = i from rfl]
      show G V E ν 154 _ (vr V (43 + i) :: _)
      refine g_v2V hX lk_X6_194 dX6_diggings_154 (c0 := 1) ok72 ⟨_, rfl, rfl⟩ (c_copy hI (s := i) (by omega) hh (by omega) hr40) (by first | decide | omega) (by decide) rfl (Nat.le_of_ble_eq_true rfl) (fun μ' hp => ?_)
      obtain ⟨q1, q2, q3⟩ := hp
      have hK2 : KQ μ μ' := hK.tr (fun k hk => q1 k (by omega) (by omega))
      refine st_iinc_6_4 hX dX6_diggings_157 (by first | exact ck_i _ | exact ck_r _ _ | exact ck_n | exact ck_0) ?_
      refine g_goto (tgt := 136) hX dX6_diggings_160 (by decide) ?_
      refine ih (i + 1) μ' _ (by omega) hK2 (by rw [q1 72 (by omega) (by omega)]; exact h72) (fun p hp40 => by rw [q1 74 (by omega) (by omega)]; exact h74 p hp40) (fun s hs => ?_)
      by_cases e1 : s = i
      · subst e1
        refine ⟨q2, ?_⟩
        rw [q3, stkL_cg (row' := fun k => m 14 (4 * s + k)) _ hrow]
        refine List.map_congr_left (fun p hp' => ?_)
        have := ids_in hM (by omega) hp'
        rw [h74 p.toNat (by omega), Int.toNat_of_nonneg (by omega)]
      · rw [q1 (53 + s) (by omega) (by omega), q1 (53 + s + 5) (by omega) (by omega)]
        exact hp s (by omega)
  -- each lies in the yard
  have two : okO m (r : Int) (x : Int) → m 13 0 + m 13 1 + m 13 2 + m 13 3 + m 13 4 ≤ 10 → ∀ (ν : Mem), KQ μ ν → ν 72 3 = (r : Int) → (∀ p : Nat, p < 40 → ν 74 p = tnK (fun i => (digN (x : Int) i : Int)) r (p : Int)) → ∀ (e i : Nat) (z5 : Option Value), i + e = r → (∀ j, j < i → m 5 (digN (x : Int) j) = 3) →
      G V E ν 92 [some (vr V 63), some (vi (r : Int)), some (vl (x : Int)), none, some (vi (i : Int)), z5] [] := by
    intro hok h10 ν hK h72 h74 e
    have hRν := hK.rel hR0
    have hNν : ν 63 6 = (N : Int) := by rw [hK 63 (by omega)]; exact hN
    induction e with
    | zero =>
      intro i z5 hi hall
      refine g_iload hX dX6_diggings_92 rfl ?_
      refine g_iload_n hX dX6_diggings_94 rfl ?_
      refine g_icmp_ge (tgt := 133) hX dX6_diggings_95 (by decide) ⟨by omega, by omega⟩ ⟨by omega, by omega⟩ (fun _ => ?_) (fun hc => absurd hc (by omega))
      refine g_iconst hX dX6_diggings_133 ?_
      refine st_istore_6_4 hX dX6_diggings_134 (by first | exact ck_i _ | exact ck_r _ _ | exact ck_n | exact ck_0) ?_
      exact three hok ⟨h10, fun j hj => hall j (by rw [show ((r : Int)).toNat = r from rfl] at hj; omega)⟩ 5 0 ν _ (by omega) hK h72 h74 (fun s hs => absurd hs (by omega))
    | succ e ih =>
      intro i z5 hi hall
      have hdN : (digN (x : Int) i : Int) < m 0 0 := hok.2.2.1 i (by rw [show ((r : Int)).toNat = r from rfl]; omega)
      have hd := hd64 i
      refine g_iload hX dX6_diggings_92 rfl ?_
      refine g_iload_n hX dX6_diggings_94 rfl ?_
      refine g_icmp_ge (tgt := 133) hX dX6_diggings_95 (by decide) ⟨by omega, by omega⟩ ⟨by omega, by omega⟩ (fun hc => absurd hc (by omega)) (fun _ => ?_)
      refine g_aload_n hX dX6_diggings_98 rfl ?_
      refine g_lload_n hX dX6_diggings_99 rfl ?_
      refine g_iload hX dX6_diggings_100 rfl ?_
      refine g_s2I hX lk_X6_182 dX6_diggings_102 (c_ordered hI (by omega) (by omega)) (by decide) (by decide) rfl (Nat.le_of_ble_eq_true rfl) (fun z μ' hp => ?_)
      obtain ⟨rfl, hm⟩ := hp
      rw [hm]
      clear hm μ'
      refine g_v1R hX lk_X6_66 dX6_diggings_105 (c0 := 6) ok63 ⟨_, rfl, rfl⟩ (c_partOf hI hNν hN40 ⟨by omega, by omega⟩) (by first | decide | omega) (by decide) rfl (Nat.le_of_ble_eq_true rfl) (fun r μ' hp => ?_)
      obtain ⟨rfl, hm⟩ := hp
      rw [hm]
      clear hm μ'
      rw [if_pos (by omega), show ((digN (x : Int) i : Nat) : Int).toNat = digN (x : Int) i from rfl]
      show G V E ν 108 _ (vr V (digN (x : Int) i) :: [])
      have e4 := xf4 hRν hdN (by omega)
      have hmp := IM_p hM hdN
      refine st_astore_6_5 hX dX6_diggings_108 (by first | exact ck_i _ | exact ck_r _ _ | exact ck_n | exact ck_0) ?_
      refine g_aload hX dX6_diggings_110 rfl ?_
      refine g_ifnull hX dX6_diggings_112 ?_
      refine g_aload hX dX6_diggings_115 rfl ?_
      refine gf_X6_133 hX dX6_diggings_117 (by first | assumption | exact okd_part (by omega) | exact okd_bed (by omega) | exact okd_pile (by omega) | exact okd_dpile (by omega)) ?_
      refine g_iconst hX dX6_diggings_120 ?_
      rw [e4]
      refine g_icmp_eq (tgt := 127) hX dX6_diggings_121 (by decide) ⟨by omega, by omega⟩ ⟨by omega, by omega⟩ (fun h5 => ?_) (fun h5 => ?_)
      · refine st_iinc_6_4 hX dX6_diggings_127 (by first | exact ck_i _ | exact ck_r _ _ | exact ck_n | exact ck_0) ?_
        refine g_goto (tgt := 92) hX dX6_diggings_130 (by decide) ?_
        refine fg_6_5 ?_
        refine ih (i + 1) _ (by omega) (fun j hj => ?_)
        by_cases e1 : j = i
        · rw [e1]; exact h5
        · exact hall j (by omega)
      · refine g_bipush hX dX6_diggings_124 rfl ?_
        refine g_iret hX hR dX6_diggings_126 ⟨_, rfl, Or.inr (Or.inl ⟨hok, fun q => h5 (q.2 i (by rw [show ((r : Int)).toNat = r from rfl]; omega)), rfl⟩), hRν, hK.vw⟩
  -- each is a part, and none twice
  have one : ∀ (e i : Nat) (ν : Mem) (z5 : Option Value), i + e = r → KQ μ ν → ν 72 3 = (i : Int) → (∀ p : Nat, p < 40 → ν 74 p = tnK (fun i => (digN (x : Int) i : Int)) i (p : Int)) → (∀ j, j < i → (digN (x : Int) j : Int) < m 0 0) → (∀ j k, j < k → k < i → (digN (x : Int) j : Int) ≠ digN (x : Int) k) →
      G V E ν 33 [some (vr V 63), some (vi (r : Int)), some (vl (x : Int)), none, some (vi (i : Int)), z5] [] := by
    intro e
    induction e with
    | zero =>
      intro i ν z5 hi hK h72 h74 ha hb
      obtain rfl : i = r := by omega
      have hRν := hK.rel hR0
      have hNν : ν 63 6 = (N : Int) := by rw [hK 63 (by omega)]; exact hN
      have hok : okO m (i : Int) (x : Int) := ⟨⟨by omega, by omega⟩, hrange, ha, hb⟩
      have hwh : ∀ i, i < N → in32 (ν i 4) := fun i hi => by
        have := IM_p hM (i := i) (by omega)
        rw [xf4 hRν (by omega) (by omega)]
        exact ⟨by omega, by omega⟩
      have hcx := cntX_le ν 3 N
      have hcw : (cntX ν 3 N : Int) = m 13 0 + m 13 1 + m 13 2 + m 13 3 + m 13 4 := by
        rw [cntX_W hRν _ N (by omega) hN40, ← hM.2.2.2.1.2.2, show (m 0 0).toNat = N by omega]
      refine g_iload hX dX6_diggings_33 rfl ?_
      refine g_iload_n hX dX6_diggings_35 rfl ?_
      refine g_icmp_ge (tgt := 76) hX dX6_diggings_36 (by decide) ⟨by omega, by omega⟩ ⟨by omega, by omega⟩ (fun _ => ?_) (fun hc => absurd hc (by omega))
      refine g_aload_n hX dX6_diggings_76 rfl ?_
      refine g_iconst hX dX6_diggings_77 ?_
      refine g_v1I hX lk_X6_190 dX6_diggings_78 (c0 := 6) ok63 ⟨_, rfl, rfl⟩ (c_countWhere hI hNν hN40 ⟨by omega, by omega⟩ hwh) (by first | decide | omega) (by decide) rfl (Nat.le_of_ble_eq_true rfl) (fun z μ' hp => ?_)
      obtain ⟨rfl, hm⟩ := hp
      rw [hm]
      clear hm μ'
      refine g_bipush hX dX6_diggings_81 rfl ?_
      refine g_icmp_le (tgt := 89) hX dX6_diggings_83 (by decide) ⟨by omega, by omega⟩ ⟨by omega, by omega⟩ (fun h6 => ?_) (fun h6 => ?_)
      · refine g_iconst hX dX6_diggings_89 ?_
        refine st_istore_6_4 hX dX6_diggings_90 (by first | exact ck_i _ | exact ck_r _ _ | exact ck_n | exact ck_0) ?_
        exact two hok (by omega) ν hK h72 h74 i 0 _ (by omega) (fun j hj => absurd hj (by omega))
      · refine g_bipush hX dX6_diggings_86 rfl ?_
        refine g_iret hX hR dX6_diggings_88 ⟨_, rfl, Or.inr (Or.inl ⟨hok, fun q => h6 (by have := q.1; omega), rfl⟩), hRν, hK.vw⟩
    | succ e ih =>
      intro i ν z5 hi hK h72 h74 ha hb
      have hRν := hK.rel hR0
      have hNν : ν 63 6 = (N : Int) := by rw [hK 63 (by omega)]; exact hN
      have hd := hd64 i
      have bad2 : ¬ okO m (r : Int) (x : Int) → G V E ν 68 [some (vr V 63), some (vi (r : Int)), some (vl (x : Int)), none, some (vi (i : Int)), some (vi (digN (x : Int) i : Int))] [] := fun h => by
        refine g_iconst hX dX6_diggings_68 ?_
        refine g_iret hX hR dX6_diggings_69 ⟨_, rfl, Or.inl ⟨h, rfl⟩, hRν, hK.vw⟩
      refine g_iload hX dX6_diggings_33 rfl ?_
      refine g_iload_n hX dX6_diggings_35 rfl ?_
      refine g_icmp_ge (tgt := 76) hX dX6_diggings_36 (by decide) ⟨by omega, by omega⟩ ⟨by omega, by omega⟩ (fun hc => absurd hc (by omega)) (fun _ => ?_)
      refine g_lload_n hX dX6_diggings_39 rfl ?_
      refine g_iload hX dX6_diggings_40 rfl ?_
      refine g_s2I hX lk_X6_182 dX6_diggings_42 (c_ordered hI (by omega) (by omega)) (by decide) (by decide) rfl (Nat.le_of_ble_eq_true rfl) (fun z μ' hp => ?_)
      obtain ⟨rfl, hm⟩ := hp
      rw [hm]
      clear hm μ'
      refine st_istore_6_5 hX dX6_diggings_45 (by first | exact ck_i _ | exact ck_r _ _ | exact ck_n | exact ck_0) ?_
      refine g_aload_n hX dX6_diggings_47 rfl ?_
      refine g_iload hX dX6_diggings_48 rfl ?_
      refine g_v1R hX lk_X6_66 dX6_diggings_50 (c0 := 6) ok63 ⟨_, rfl, rfl⟩ (c_partOf hI hNν hN40 ⟨by omega, by omega⟩) (by first | decide | omega) (by decide) rfl (Nat.le_of_ble_eq_true rfl) (fun r μ' hp => ?_)
      obtain ⟨rfl, hm⟩ := hp
      rw [hm]
      clear hm μ'
      by_cases h5 : (digN (x : Int) i : Int) < m 0 0
      rotate_left
      · rw [if_neg (by omega)]
        show G V E ν 53 _ (Value.null :: [])
        refine g_ifnullN (tgt := 68) hX dX6_diggings_53 (by decide) ?_
        exact bad2 (fun h => h5 (h.2.2.1 i (by rw [show ((r : Int)).toNat = r from rfl]; omega)))
      rw [if_pos (by omega), show ((digN (x : Int) i : Nat) : Int).toNat = digN (x : Int) i from rfl]
      show G V E ν 53 _ (vr V (digN (x : Int) i) :: [])
      refine g_ifnull hX dX6_diggings_53 ?_
      have hp40 : digN (x : Int) i < 40 := by omega
      have ht := h74 (digN (x : Int) i) hp40
      have hts := tnK_sp (fun i => (digN (x : Int) i : Int)) (digN (x : Int) i : Int) i
      refine g_aload_n hX dX6_diggings_56 rfl ?_
      refine gf_X6_44 hX dX6_diggings_57 ?_
      refine g_iload hX dX6_diggings_60 rfl ?_
      refine g_v1I hX lk_X6_186 dX6_diggings_62 (c0 := 1) ok72 ⟨_, rfl, rfl⟩ (c_wants hI hp40 h72 (by rw [ht]; rcases hts with ⟨t, q1, q2, -⟩ | ⟨q1, -⟩ <;> omega)) (by first | decide | omega) (by decide) rfl (Nat.le_of_ble_eq_true rfl) (fun z μ' hp => ?_)
      rcases hp with ⟨rfl, q1, q2⟩ | ⟨rfl, q1, q2⟩
      · rw [q2]
        clear q2 μ'
        refine g_if_ne (tgt := 70) hX dX6_diggings_65 (by decide) ⟨by omega, by omega⟩ (fun _ => ?_) (fun hc => absurd hc (by omega))
        refine st_iinc_6_4 hX dX6_diggings_70 (by first | exact ck_i _ | exact ck_r _ _ | exact ck_n | exact ck_0) ?_
        refine g_goto (tgt := 33) hX dX6_diggings_73 (by decide) ?_
        have hnew : ∀ t, t < i → (digN (x : Int) t : Int) ≠ digN (x : Int) i := by
          rcases hts with ⟨t, q3, q4, -⟩ | ⟨-, q4⟩
          · rw [ht, q4] at q1; omega
          · exact q4
        refine ih (i + 1) _ _ (by omega) ((hK.st (by omega)).st (by omega)) mset_same (fun p hp => ?_) (fun j hj => ?_) (fun j k hjk hk => ?_)
        · rw [mset_cell (by omega)]
          show _ = if (digN (x : Int) i : Int) = (p : Int) then (i : Int) else tnK _ i (p : Int)
          by_cases e1 : digN (x : Int) i = p
          · rw [if_pos (by omega), e1, mset_same]
          · rw [if_neg (by omega), mset_ne (Or.inr (fun q => e1 q.symm))]; exact h74 p hp
        · by_cases e1 : j = i
          · rw [e1]; exact h5
          · exact ha j (by omega)
        · by_cases e1 : k = i
          · rw [e1]; exact hnew j (by omega)
          · exact hb j k hjk (by omega)
      · rw [q2]
        clear q2 μ'
        refine g_if_ne (tgt := 70) hX dX6_diggings_65 (by decide) ⟨by omega, by omega⟩ (fun hc => absurd hc (by omega)) (fun _ => ?_)
        refine bad2 (fun h => ?_)
        rcases hts with ⟨t, q3, q4, q5⟩ | ⟨q4, -⟩
        · exact h.2.2.2 t i q3 (by rw [show ((r : Int)).toNat = r from rfl]; omega) q5
        · rw [ht, q4] at q1; omega
  refine g_aload_n hX dX6_diggings_23 rfl ?_
  refine gf_X6_44 hX dX6_diggings_24 ?_
  refine g_v0V hX lk_X6_181 dX6_diggings_27 (c0 := 1) ok72 ⟨_, rfl, rfl⟩ (c_dclear hI) (by first | decide | omega) (by decide) rfl (Nat.le_of_ble_eq_true rfl) (fun μ' hp => ?_)
  obtain ⟨hp1, hp2, hp3⟩ := hp
  refine g_iconst hX dX6_diggings_30 ?_
  refine st_istore_6_4 hX dX6_diggings_31 (by first | exact ck_i _ | exact ck_r _ _ | exact ck_n | exact ck_0) ?_
  exact one r 0 μ' _ (by omega) hp3 hp2 (fun p hp => hp1 p hp) (fun j hj => absurd hj (by omega)) (fun j k _ hk => absurd hk (by omega))
