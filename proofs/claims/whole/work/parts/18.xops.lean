/-! the class's calls: change, letGo -/
set_option maxHeartbeats 4000000 in
theorem c_strikeWhere {lnch : Launch} {V : VX} (hI : InjV V) {μ : Mem} {m : Mem} {p n : Nat} (hR0 : RelXM μ m) (hp : p < n) (hn : m 0 0 = (n : Int)) (hn40 : n ≤ 40) (hw : 0 ≤ m 5 p ∧ m 5 p ≤ 6) (hd : m 8 p = 0) (h3 : m 5 p = 3 → (0 ≤ m 6 p ∧ m 6 p < 5) ∧ SI (mset m 8 p 1) (m 6 p).toNat n) : Ct lnch yX6_strikeWhereItIs cX6_strikeWhereItIs 2 none 5 V [vr V 63, vr V p] μ (pV (fun μ' => RelXM μ' (strkM m p) ∧ vw μ' = vw μ)) := by
  refine Ct_of (by decide) hI (Nat.le_of_ble_eq_true rfl) (fun E hE hX hR => ?_)
  have hX : OkX V E RX6 cX6_strikeWhereItIs 2 5 := hX
  show G V E μ 0 [some (vr V 63), some (vr V p)] []
  have e4 := xf4 hR0 (i := p) (by omega) (by omega)
  have e5 := xf5 hR0 (i := p) (by omega) (by omega)
  unfold strkM at hR
  refine g_aload_n hX dX6_strikeWhereItIs_0 rfl ?_
  refine gf_X6_133 hX dX6_strikeWhereItIs_1 (by first | assumption | exact okd_part (by omega) | exact okd_bed (by omega) | exact okd_pile (by omega) | exact okd_dpile (by omega)) ?_
  refine g_iconst hX dX6_strikeWhereItIs_4 ?_
  rw [e4]
  refine g_icmp_ne (tgt := 13) hX dX6_strikeWhereItIs_5 (by decide) ⟨by omega, by omega⟩ ⟨by omega, by omega⟩ (fun h2 => ?_) (fun h2 => ?_)
  · rw [if_neg h2] at hR
    have r1 := R_pf7 (p := p) (v := 1) hR0 (by omega) (by omega)
    refine g_aload_n hX dX6_strikeWhereItIs_13 rfl ?_
    refine g_iconst hX dX6_strikeWhereItIs_14 ?_
    refine pf_X6_146 hX dX6_strikeWhereItIs_15 (by first | assumption | exact okd_part (by omega) | exact okd_bed (by omega) | exact okd_pile (by omega) | exact okd_dpile (by omega)) (by first | exact Or.inl rfl | exact Or.inr rfl | assumption) ?_
    refine g_aload_n hX dX6_strikeWhereItIs_18 rfl ?_
    refine gf_X6_133 hX dX6_strikeWhereItIs_19 (by first | assumption | exact okd_part (by omega) | exact okd_bed (by omega) | exact okd_pile (by omega) | exact okd_dpile (by omega)) ?_
    refine g_iconst hX dX6_strikeWhereItIs_22 ?_
    simp (disch := omega) only [mset_ne, mset_same]
    rw [e4]
    refine g_icmp_ne (tgt := 38) hX dX6_strikeWhereItIs_23 (by decide) ⟨by omega, by omega⟩ ⟨by omega, by omega⟩ (fun h4 => ?_) (fun h4 => ?_)
    · rw [if_neg h4] at hR
      refine g_vret hX hR dX6_strikeWhereItIs_38 ⟨rfl, r1, vw_out (by omega)⟩
    · rw [if_pos h4] at hR
      obtain ⟨h5, h6⟩ := h3 h4
      refine g_aload_n hX dX6_strikeWhereItIs_26 rfl ?_
      refine g_aload_n hX dX6_strikeWhereItIs_27 rfl ?_
      refine g_aload_n hX dX6_strikeWhereItIs_28 rfl ?_
      refine gf_X6_136 hX dX6_strikeWhereItIs_29 (by first | assumption | exact okd_part (by omega) | exact okd_bed (by omega) | exact okd_pile (by omega) | exact okd_dpile (by omega)) ?_
      simp (disch := omega) only [mset_ne, mset_same]
      rw [e5]
      refine g_v1R hX lk_X6_156 dX6_strikeWhereItIs_32 (c0 := 6) ok63 ⟨_, rfl, rfl⟩ (c_stackOf hI ⟨by omega, by omega⟩) (by first | decide | omega) (by decide) rfl (Nat.le_of_ble_eq_true rfl) (fun r μ' hp => ?_)
      obtain ⟨rfl, hm⟩ := hp
      rw [hm]
      clear hm μ'
      rw [if_pos h5]
      show G V E _ 35 _ (vr V (43 + (m 6 p).toNat) :: vr V 63 :: [])
      refine g_v1V hX lk_X6_177 dX6_strikeWhereItIs_35 (c0 := 6) ok63 ⟨_, rfl, rfl⟩ (c_strikeTops hI r1 (by omega) h6) (by first | decide | omega) (by decide) rfl (Nat.le_of_ble_eq_true rfl) (fun μ' hp => ?_)
      refine g_vret hX hR dX6_strikeWhereItIs_38 ⟨rfl, hp.1, by rw [hp.2, vw_out (by omega)]⟩
  · rw [if_pos h2] at hR
    refine g_aload_n hX dX6_strikeWhereItIs_8 rfl ?_
    refine g_v0V hX lk_X6_150 dX6_strikeWhereItIs_9 (c0 := 4) (by first | assumption | exact okd_part (by omega) | exact okd_bed (by omega) | exact okd_pile (by omega) | exact okd_dpile (by omega)) ⟨_, rfl, rfl⟩ (c_isStruck hI (okd_part (by omega))) (by first | decide | omega) (by decide) rfl (Nat.le_of_ble_eq_true rfl) (fun μ' hp => ?_)
    rw [hp]
    clear hp μ'
    refine g_vret hX hR dX6_strikeWhereItIs_12 ⟨rfl, ?_, by rw [vw_out (by omega), vw_out (by omega), vw_out (by omega)]⟩
    have r1 := R_pf4 (p := p) (v := 5) hR0 (by omega) (by omega)
    have r2 := R_pf5 (p := p) (v := -4) r1 (by rw [mset_ne (Or.inl (by decide))]; omega) (by omega)
    have r3 := R_pf7 (p := p) (v := 0) r2 (by simp (disch := omega) only [mset_ne]; omega) (by omega)
    rw [mset_id (m := mset (mset m 5 p 5) 6 p (-4)) (a := 8) (b := p) (v := 0) (by simp (disch := omega) only [mset_ne]; exact hd)] at r3
    exact r3
theorem R_gets {ν m : Mem} {c p : Nat} {l pl w : Int} (hR : RelXM ν m) (hM : IM c m) (hp : (p : Int) < m 0 0) (hp40 : p < 40) (hw : m 5 p = 0 ∨ m 5 p = 2) : RelXM (mset (mset (mset ν p 0 l) p 1 pl) p 2 w) (getsM m p l pl w) := by
  have r1 := R_pf (j := 0) (v := l) hR hp hp40 (by decide) (fun _ b k hb hk h => by
    have := (hM.2.2.1 b hb).2.2.2.2.1 k hk
    rw [h] at this
    omega) (fun h => absurd h (by decide))
  have r2 := R_pf (p := p) (j := 1) (v := pl) r1 (by rw [mset_ne (Or.inl (by decide))]; exact hp) hp40 (by decide) (fun h => absurd h (by decide)) (fun h => absurd h (by decide))
  exact R_pf (p := p) (j := 2) (v := w) r2 (by simp (disch := omega) only [mset_ne]; exact hp) hp40 (by decide) (fun h => absurd h (by decide)) (fun _ k hk h => by
    simp (disch := omega) only [mset_ne] at hk h
    have := hM.2.2.2.2.2.1 k hk
    rw [h] at this
    omega)
theorem newM_get {m : Mem} {n : Nat} {l p w nd : Int} {c j : Nat} (h0 : c ≠ 0 ∨ j ≠ 0) (hj : j ≠ n ∨ 6 < c ∨ c = 0) : newM m n l p w nd c j = m c j := by
  unfold newM
  rw [mset_ne h0, mset_ne (by omega), mset_ne (by omega), mset_ne (by omega), mset_ne (by omega), mset_ne (by omega), mset_ne (by omega)]
set_option maxHeartbeats 4000000 in
theorem x_change {lnch : Launch} {V : VX} (hI : InjV V) {μ : Mem} {m : Mem} {c : Nat} {p l pl w : Int} (hR0 : RelXM μ m) (hM : IM c m) (hp : in32 p) (hl : in32 l) (hpl : in32 pl) (hw : in32 w) : Ct lnch yX6_change cX6_change 7 (some .int) 6 V [vr V 63, vi p, vi l, vi pl, vi w] μ (pI (XP μ (spChange m p l pl w))) := by
  refine Ct_of (by decide) hI (Nat.le_of_ble_eq_true rfl) (fun E hE hX hR => ?_)
  have hX : OkX V E RX6 cX6_change 7 6 := hX
  show G V E μ 0 [some (vr V 63), some (vi p), some (vi l), some (vi pl), some (vi w), none, none] []
  obtain ⟨N, hN40, hmN, hN⟩ := rel_n hR0 hM
  unfold spChange at hR
  have hl0 := hl
  have hpl0 := hpl
  have hw0 := hw
  obtain ⟨hl1, hl2⟩ := hl0
  obtain ⟨hpl1, hpl2⟩ := hpl0
  obtain ⟨hw1, hw2⟩ := hw0
  refine g_aload_n hX dX6_change_0 rfl ?_
  refine g_iload_n hX dX6_change_1 rfl ?_
  refine g_v1R hX lk_X6_66 dX6_change_2 (c0 := 6) ok63 ⟨_, rfl, rfl⟩ (c_partOf hI hN hN40 hp) (by first | decide | omega) (by decide) rfl (Nat.le_of_ble_eq_true rfl) (fun r μ' hp => ?_)
  obtain ⟨rfl, hm⟩ := hp
  rw [hm]
  clear hm μ'
  by_cases h1 : 0 ≤ p ∧ p < (N : Int)
  rotate_left
  · rw [if_neg h1]
    rw [if_neg (by omega)] at hR
    show G V E μ 5 _ (Value.null :: [])
    refine st_astoreN_7_5 hX dX6_change_5 (by first | exact ck_i _ | exact ck_r _ _ | exact ck_n | exact ck_0) ?_
    refine g_aloadN hX dX6_change_7 rfl ?_
    refine g_ifnullN (tgt := 22) hX dX6_change_9 (by decide) ?_
    refine g_iconst hX dX6_change_22 ?_
    refine g_iret hX hR dX6_change_23 ⟨_, rfl, rfl, hR0, rfl⟩
  rw [if_pos h1]
  obtain ⟨q, rfl⟩ : ∃ q : Nat, p = (q : Int) := ⟨p.toNat, by omega⟩
  rw [show ((q : Int)).toNat = q from rfl] at *
  show G V E μ 5 _ (vr V q :: [])
  refine st_astore_7_5 hX dX6_change_5 (by first | exact ck_i _ | exact ck_r _ _ | exact ck_n | exact ck_0) ?_
  refine g_aload hX dX6_change_7 rfl ?_
  refine g_ifnull hX dX6_change_9 ?_
  refine g_iload_n hX dX6_change_12 rfl ?_
  refine g_iload_n hX dX6_change_13 rfl ?_
  refine g_iload hX dX6_change_14 rfl ?_
  refine g_s3I hX lk_X6_55 dX6_change_16 (c_areMeasures hI hl hpl hw) (by decide) (by decide) rfl (Nat.le_of_ble_eq_true rfl) (fun z μ' hp => ?_)
  obtain ⟨hz, hm⟩ := hp
  rw [hm]; clear hm μ'
  rcases hz with ⟨rfl, hz⟩ | ⟨rfl, hz⟩
  rotate_left
  · rw [if_neg (fun h => hz h.2)] at hR
    refine g_if_ne (tgt := 24) hX dX6_change_19 (by decide) ⟨by omega, by omega⟩ (fun hc => absurd hc (by omega)) (fun _ => ?_)
    refine g_iconst hX dX6_change_22 ?_
    refine g_iret hX hR dX6_change_23 ⟨_, rfl, rfl, hR0, rfl⟩
  rw [if_pos ⟨by omega, hz⟩] at hR
  have e0 := xf0 hR0 (i := q) (by omega) (by omega)
  have e1 := xf1 hR0 (i := q) (by omega) (by omega)
  have e2 := xf2 hR0 (i := q) (by omega) (by omega)
  have e3 := xf3 hR0 (i := q) (by omega) (by omega)
  have e4 := xf4 hR0 (i := q) (by omega) (by omega)
  have e7 := xf7 hR0 (i := q) (by omega) (by omega)
  have hq := IM_p hM (i := q) (by omega)
  have no : (m 5 q = 4 ∨ m 5 q = 6 ∨ m 5 q = 5 ∨ m 8 q = 1) → G V E μ 60 [some (vr V 63), some (vi (q : Int)), some (vi l), some (vi pl), some (vi w), some (vr V q), none] [] := fun h => by
    rw [if_pos h] at hR
    refine g_bipush hX dX6_change_60 rfl ?_
    refine g_iret hX hR dX6_change_62 ⟨_, rfl, rfl, hR0, rfl⟩
  refine g_if_ne (tgt := 24) hX dX6_change_19 (by decide) ⟨by omega, by omega⟩ (fun _ => ?_) (fun hc => absurd hc (by omega))
  refine g_aload hX dX6_change_24 rfl ?_
  refine gf_X6_133 hX dX6_change_26 (by first | assumption | exact okd_part (by omega) | exact okd_bed (by omega) | exact okd_pile (by omega) | exact okd_dpile (by omega)) ?_
  refine g_iconst hX dX6_change_29 ?_
  rw [e4]
  refine g_icmp_eq (tgt := 60) hX dX6_change_30 (by decide) ⟨by omega, by omega⟩ ⟨by omega, by omega⟩ (fun a1 => ?_) (fun a1 => ?_)
  · exact no (by omega)
  refine g_aload hX dX6_change_33 rfl ?_
  refine gf_X6_133 hX dX6_change_35 (by first | assumption | exact okd_part (by omega) | exact okd_bed (by omega) | exact okd_pile (by omega) | exact okd_dpile (by omega)) ?_
  refine g_bipush hX dX6_change_38 rfl ?_
  rw [e4]
  refine g_icmp_eq (tgt := 60) hX dX6_change_40 (by decide) ⟨by omega, by omega⟩ ⟨by omega, by omega⟩ (fun a2 => ?_) (fun a2 => ?_)
  · exact no (by omega)
  refine g_aload hX dX6_change_43 rfl ?_
  refine gf_X6_133 hX dX6_change_45 (by first | assumption | exact okd_part (by omega) | exact okd_bed (by omega) | exact okd_pile (by omega) | exact okd_dpile (by omega)) ?_
  refine g_iconst hX dX6_change_48 ?_
  rw [e4]
  refine g_icmp_eq (tgt := 60) hX dX6_change_49 (by decide) ⟨by omega, by omega⟩ ⟨by omega, by omega⟩ (fun a3 => ?_) (fun a3 => ?_)
  · exact no (by omega)
  refine g_aload hX dX6_change_52 rfl ?_
  refine gf_X6_146 hX dX6_change_54 (by first | assumption | exact okd_part (by omega) | exact okd_bed (by omega) | exact okd_pile (by omega) | exact okd_dpile (by omega)) ?_
  rw [e7]
  refine g_if_eq (tgt := 63) hX dX6_change_57 (by decide) ⟨by omega, by omega⟩ (fun a4 => ?_) (fun a4 => ?_)
  rotate_left
  · exact no (by omega)
  rw [if_neg (by omega)] at hR
  have diff : ¬ (m 1 q = l ∧ m 2 q = pl ∧ m 3 q = w) → G V E μ 93 [some (vr V 63), some (vi (q : Int)), some (vi l), some (vi pl), some (vi w), some (vr V q), none] [] := fun hd => by
    rw [if_neg hd] at hR
    refine g_aload hX dX6_change_93 rfl ?_
    refine gf_X6_133 hX dX6_change_95 (by first | assumption | exact okd_part (by omega) | exact okd_bed (by omega) | exact okd_pile (by omega) | exact okd_dpile (by omega)) ?_
    rw [e4]
    refine g_if_ne (tgt := 112) hX dX6_change_98 (by decide) ⟨by omega, by omega⟩ (fun b1 => ?_) (fun b1 => ?_)
    rotate_left
    · rw [if_pos b1] at hR
      refine g_aload hX dX6_change_101 rfl ?_
      refine g_iload_n hX dX6_change_103 rfl ?_
      refine g_iload_n hX dX6_change_104 rfl ?_
      refine g_iload hX dX6_change_105 rfl ?_
      refine g_v3V hX lk_X6_233 dX6_change_107 (c0 := 4) (by first | assumption | exact okd_part (by omega) | exact okd_bed (by omega) | exact okd_pile (by omega) | exact okd_dpile (by omega)) ⟨_, rfl, rfl⟩ (c_measure hI (okd_part (by omega))) (by first | decide | omega) (by decide) rfl (Nat.le_of_ble_eq_true rfl) (fun μ' hp => ?_)
      rw [hp]
      clear hp μ'
      refine g_iconst hX dX6_change_110 ?_
      refine g_iret hX hR dX6_change_111 ⟨_, rfl, rfl, R_gets hR0 hM (by omega) (by omega) (Or.inl b1), by rw [vw_out (by omega), vw_out (by omega), vw_out (by omega)]⟩
    rw [if_neg b1] at hR
    have big : ¬ (m 2 q = pl ∧ l < m 1 q ∧ w ≤ m 3 q) → G V E μ 163 [some (vr V 63), some (vi (q : Int)), some (vi l), some (vi pl), some (vi w), some (vr V q), none] [] := fun hb => by
      rw [if_neg hb] at hR
      refine g_aload_n hX dX6_change_163 rfl ?_
      refine gf_X6_59 hX dX6_change_164 ?_
      refine g_bipush hX dX6_change_167 rfl ?_
      refine g_icmp_lt (tgt := 175) hX dX6_change_169 (by decide) ⟨by omega, by omega⟩ ⟨by omega, by omega⟩ (fun c1 => ?_) (fun c1 => ?_)
      rotate_left
      · rw [if_pos (by omega)] at hR
        refine g_bipush hX dX6_change_172 rfl ?_
        refine g_iret hX hR dX6_change_174 ⟨_, rfl, rfl, hR0, rfl⟩
      rw [if_neg (by omega)] at hR
      refine g_aload_n hX dX6_change_175 rfl ?_
      refine g_iload_n hX dX6_change_176 rfl ?_
      refine g_iload_n hX dX6_change_177 rfl ?_
      refine g_iload hX dX6_change_178 rfl ?_
      refine g_aload hX dX6_change_180 rfl ?_
      refine gf_X6_70 hX dX6_change_182 (by first | assumption | exact okd_part (by omega) | exact okd_bed (by omega) | exact okd_pile (by omega) | exact okd_dpile (by omega)) ?_
      rw [e3]
      refine g_v4I hX lk_X6_62 dX6_change_185 (c0 := 6) ok63 ⟨_, rfl, rfl⟩ (c_draw (n := N) hI hN (by omega)) (by first | decide | omega) (by decide) rfl (Nat.le_of_ble_eq_true rfl) (fun z μ' hp => ?_)
      obtain ⟨rfl, hm⟩ := hp
      rw [hm]
      clear hm μ'
      have r1 := R_new (l := l) (p := pl) (w := w) (nd := m 4 q) hR0 hM hmN (by omega)
      have g5 : newM m N l pl w (m 4 q) 5 q = m 5 q := newM_get (by omega) (by omega)
      have g6 : newM m N l pl w (m 4 q) 6 q = m 6 q := newM_get (by omega) (by omega)
      have g8 : newM m N l pl w (m 4 q) 8 q = m 8 q := newM_get (by omega) (by omega)
      have g0 : newM m N l pl w (m 4 q) 0 0 = ((N + 1 : Nat) : Int) := by unfold newM; rw [mset_same]; rfl
      have hsi3 : newM m N l pl w (m 4 q) 5 q = 3 → (0 ≤ newM m N l pl w (m 4 q) 6 q ∧ newM m N l pl w (m 4 q) 6 q < 5) ∧ SI (mset (newM m N l pl w (m 4 q)) 8 q 1) (newM m N l pl w (m 4 q) 6 q).toNat (N + 1) := fun h5 => by
        rw [g5] at h5
        rw [g6]
        have hy := hM.2.2.2.1.2.1 q (by omega) h5
        have hys := hM.2.2.2.1.1 (m 6 q).toNat (by omega)
        refine ⟨hy, ?_, by omega, ?_, fun k hk => ?_, fun i hi => ?_⟩
        · rw [mset_ne (Or.inl (by decide)), g0]
        · rw [mset_ne (Or.inl (by decide)), newM_get (by omega) (by omega)]; exact hys.1
        · rw [mset_ne (Or.inl (by decide)), newM_get (by omega) (by omega)] at hk
          rw [mset_ne (Or.inl (by decide)), newM_get (by omega) (by omega)]
          have := hys.2.1 k hk
          omega
        · by_cases hiq : i = q
          · rw [hiq, mset_same]; exact Or.inr rfl
          · rw [mset_ne (Or.inr hiq), newM_get (by omega) (by omega)]
            by_cases hiN : i = N
            · exact Or.inl (hM.1.2.2 i (by omega) (by omega)).2
            · exact (IM_p hM (i := i) (by omega)).2.2.2.2.2.2
      refine st_istore_7_6 hX dX6_change_188 (by first | exact ck_i _ | exact ck_r _ _ | exact ck_n | exact ck_0) ?_
      refine g_aload_n hX dX6_change_190 rfl ?_
      refine g_aload hX dX6_change_191 rfl ?_
      refine g_v1V hX lk_X6_236 dX6_change_193 (c0 := 6) ok63 ⟨_, rfl, rfl⟩ (c_strikeWhere (n := N + 1) hI r1 (by omega) g0 (by omega) (by omega) (by omega) hsi3) (by first | decide | omega) (by decide) rfl (Nat.le_of_ble_eq_true rfl) (fun μ' hp => ?_)
      obtain ⟨hp1, hp2⟩ := hp
      refine g_bipush hX dX6_change_196 rfl ?_
      refine g_iload hX dX6_change_198 rfl ?_
      refine g_iadd hX dX6_change_200 ?_
      refine g_iret hX hR dX6_change_201 ⟨_, rfl, ?_, ?_, ?_⟩
      · show (100 : Int) + N = 100 + m 0 0
        omega
      · show RelXM μ' (strkM (newM m (m 0 0).toNat l pl w (m 4 q)) q)
        rw [show (m 0 0).toNat = N by omega]
        exact hp1
      · rw [hp2, vw_newX (by omega)]
    refine g_aload hX dX6_change_112 rfl ?_
    refine gf_X6_230 hX dX6_change_114 (by first | assumption | exact okd_part (by omega) | exact okd_bed (by omega) | exact okd_pile (by omega) | exact okd_dpile (by omega)) ?_
    refine g_iload_n hX dX6_change_117 rfl ?_
    rw [e1]
    refine g_icmp_ne (tgt := 163) hX dX6_change_118 (by decide) ⟨by omega, by omega⟩ ⟨by omega, by omega⟩ (fun b2 => ?_) (fun b2 => ?_)
    · exact big (by omega)
    refine g_iload_n hX dX6_change_121 rfl ?_
    refine g_aload hX dX6_change_122 rfl ?_
    refine gf_X6_108 hX dX6_change_124 (by first | assumption | exact okd_part (by omega) | exact okd_bed (by omega) | exact okd_pile (by omega) | exact okd_dpile (by omega)) ?_
    rw [e0]
    refine g_icmp_ge (tgt := 163) hX dX6_change_127 (by decide) ⟨by omega, by omega⟩ ⟨by omega, by omega⟩ (fun b3 => ?_) (fun b3 => ?_)
    · exact big (by omega)
    refine g_iload hX dX6_change_130 rfl ?_
    refine g_aload hX dX6_change_132 rfl ?_
    refine gf_X6_204 hX dX6_change_134 (by first | assumption | exact okd_part (by omega) | exact okd_bed (by omega) | exact okd_pile (by omega) | exact okd_dpile (by omega)) ?_
    rw [e2]
    refine g_icmp_gt (tgt := 163) hX dX6_change_137 (by decide) ⟨by omega, by omega⟩ ⟨by omega, by omega⟩ (fun b4 => ?_) (fun b4 => ?_)
    · exact big (by omega)
    rw [if_pos (by omega)] at hR
    refine g_aload hX dX6_change_140 rfl ?_
    refine gf_X6_133 hX dX6_change_142 (by first | assumption | exact okd_part (by omega) | exact okd_bed (by omega) | exact okd_pile (by omega) | exact okd_dpile (by omega)) ?_
    refine g_iconst hX dX6_change_145 ?_
    rw [e4]
    refine g_icmp_eq (tgt := 152) hX dX6_change_146 (by decide) ⟨by omega, by omega⟩ ⟨by omega, by omega⟩ (fun b5 => ?_) (fun b5 => ?_)
    · rw [if_pos b5] at hR
      refine g_aload hX dX6_change_152 rfl ?_
      refine g_iload_n hX dX6_change_154 rfl ?_
      refine g_iload_n hX dX6_change_155 rfl ?_
      refine g_iload hX dX6_change_156 rfl ?_
      refine g_v3V hX lk_X6_233 dX6_change_158 (c0 := 4) (by first | assumption | exact okd_part (by omega) | exact okd_bed (by omega) | exact okd_pile (by omega) | exact okd_dpile (by omega)) ⟨_, rfl, rfl⟩ (c_measure hI (okd_part (by omega))) (by first | decide | omega) (by decide) rfl (Nat.le_of_ble_eq_true rfl) (fun μ' hp => ?_)
      rw [hp]
      clear hp μ'
      refine g_iconst hX dX6_change_161 ?_
      refine g_iret hX hR dX6_change_162 ⟨_, rfl, rfl, R_gets hR0 hM (by omega) (by omega) (Or.inr b5), by rw [vw_out (by omega), vw_out (by omega), vw_out (by omega)]⟩
    · rw [if_neg b5] at hR
      refine g_bipush hX dX6_change_149 rfl ?_
      refine g_iret hX hR dX6_change_151 ⟨_, rfl, rfl, hR0, rfl⟩
  refine g_aload hX dX6_change_63 rfl ?_
  refine gf_X6_108 hX dX6_change_65 (by first | assumption | exact okd_part (by omega) | exact okd_bed (by omega) | exact okd_pile (by omega) | exact okd_dpile (by omega)) ?_
  refine g_iload_n hX dX6_change_68 rfl ?_
  rw [e0]
  refine g_icmp_ne (tgt := 93) hX dX6_change_69 (by decide) ⟨by omega, by omega⟩ ⟨by omega, by omega⟩ (fun d1 => ?_) (fun d1 => ?_)
  · exact diff (by omega)
  refine g_aload hX dX6_change_72 rfl ?_
  refine gf_X6_230 hX dX6_change_74 (by first | assumption | exact okd_part (by omega) | exact okd_bed (by omega) | exact okd_pile (by omega) | exact okd_dpile (by omega)) ?_
  refine g_iload_n hX dX6_change_77 rfl ?_
  rw [e1]
  refine g_icmp_ne (tgt := 93) hX dX6_change_78 (by decide) ⟨by omega, by omega⟩ ⟨by omega, by omega⟩ (fun d2 => ?_) (fun d2 => ?_)
  · exact diff (by omega)
  refine g_aload hX dX6_change_81 rfl ?_
  refine gf_X6_204 hX dX6_change_83 (by first | assumption | exact okd_part (by omega) | exact okd_bed (by omega) | exact okd_pile (by omega) | exact okd_dpile (by omega)) ?_
  refine g_iload hX dX6_change_86 rfl ?_
  rw [e2]
  refine g_icmp_ne (tgt := 93) hX dX6_change_88 (by decide) ⟨by omega, by omega⟩ ⟨by omega, by omega⟩ (fun d3 => ?_) (fun d3 => ?_)
  · exact diff (by omega)
  rw [if_pos (by omega)] at hR
  refine g_iconst hX dX6_change_91 ?_
  refine g_iret hX hR dX6_change_92 ⟨_, rfl, rfl, hR0, rfl⟩
