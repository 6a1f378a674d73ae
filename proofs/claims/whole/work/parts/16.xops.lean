/-! the class's calls: stack, go, move, load, change -/
theorem mset_comm {m : Mem} {a b c d : Nat} {v w : Int} (h : a ≠ c ∨ b ≠ d) : mset (mset m a b v) c d w = mset (mset m c d w) a b v := by
  funext k j
  unfold mset
  by_cases h1 : k = c ∧ j = d
  · rw [if_pos h1]
    by_cases h2 : k = a ∧ j = b
    · exact absurd h2 (by omega)
    · rw [if_neg h2, if_pos h1]
  · rw [if_neg h1]
    by_cases h2 : k = a ∧ j = b
    · rw [if_pos h2, if_pos h2]
    · rw [if_neg h2, if_neg h2, if_neg h1]
theorem mset_id {m : Mem} {a b : Nat} {v : Int} (h : m a b = v) : mset m a b v = m := by
  funext k j
  unfold mset
  by_cases h1 : k = a ∧ j = b
  · rw [if_pos h1, h1.1, h1.2, h]
  · rw [if_neg h1]
theorem mset_over {m : Mem} {a b : Nat} {v w : Int} : mset (mset m a b v) a b w = mset m a b w := by
  funext k j
  unfold mset
  by_cases h1 : k = a ∧ j = b
  · rw [if_pos h1, if_pos h1]
  · rw [if_neg h1, if_neg h1, if_neg h1]
/-- writes on where, number and so on of a part that is there -/
theorem R_pf4 {ν m : Mem} {p : Nat} {v : Int} (h : RelXM ν m) (hp : (p : Int) < m 0 0) (hp40 : p < 40) : RelXM (mset ν p 4 v) (mset m 5 p v) := R_pf (j := 4) h hp hp40 (by decide) (fun h => absurd h (by decide)) (fun h => absurd h (by decide))
theorem R_pf5 {ν m : Mem} {p : Nat} {v : Int} (h : RelXM ν m) (hp : (p : Int) < m 0 0) (hp40 : p < 40) : RelXM (mset ν p 5 v) (mset m 6 p v) := R_pf (j := 5) h hp hp40 (by decide) (fun h => absurd h (by decide)) (fun h => absurd h (by decide))
theorem R_pf6 {ν m : Mem} {p : Nat} {v : Int} (h : RelXM ν m) (hp : (p : Int) < m 0 0) (hp40 : p < 40) : RelXM (mset ν p 6 v) (mset m 7 p v) := R_pf (j := 6) h hp hp40 (by decide) (fun h => absurd h (by decide)) (fun h => absurd h (by decide))
theorem R_pf7 {ν m : Mem} {p : Nat} {v : Int} (h : RelXM ν m) (hp : (p : Int) < m 0 0) (hp40 : p < 40) : RelXM (mset ν p 7 v) (mset m 8 p v) := R_pf (j := 7) h hp hp40 (by decide) (fun h => absurd h (by decide)) (fun h => absurd h (by decide))
theorem IMy_4 {c : Nat} {m : Mem} (hM : IM c m) : ∀ t : Nat, t < 5 → m 13 t ≤ 4 := fun t ht => (hM.2.2.2.1.1 t ht).1.2
theorem R_lay {ν m : Mem} {p s h : Nat} (hR : RelXM ν m) (hs : s < 5) (hh : m 13 s = (h : Int)) (h4 : h < 4) (hb4 : ∀ t : Nat, t < 5 → m 13 t ≤ 4) (hp : (p : Int) < m 0 0) (hp40 : p < 40) :
    RelXM (mset (mset (mset (mset ν (48 + s) h p) (43 + s) 1 ((h : Int) + 1)) p 4 3) p 5 (s : Int)) (layM m p s h) := by
  unfold layM
  have h1 := R_push (v := (p : Int)) hR hs hh h4 hb4
  have h2 := R_pf4 (p := p) (v := 3) h1 (by simp (disch := omega) only [mset_ne]; exact hp) hp40
  exact R_pf5 (p := p) (v := (s : Int)) h2 (by simp (disch := omega) only [mset_ne]; exact hp) hp40
set_option maxHeartbeats 4000000 in
theorem x_stack {lnch : Launch} {V : VX} (hI : InjV V) {μ : Mem} {m : Mem} {c : Nat} {p s : Int} (hR0 : RelXM μ m) (hM : IM c m) (hp : in32 p) (hs : in32 s) : Ct lnch yX6_stack cX6_stack 5 (some .int) 2 V [vr V 63, vi p, vi s] μ (pI (XP μ (spStack m p s))) := by
  refine Ct_of (by decide) hI (Nat.le_of_ble_eq_true rfl) (fun E hE hX hR => ?_)
  have hX : OkX V E RX6 cX6_stack 5 2 := hX
  show G V E μ 0 [some (vr V 63), some (vi p), some (vi s), none, none] []
  obtain ⟨N, hN40, hmN, hN⟩ := rel_n hR0 hM
  unfold spStack at hR
  refine g_aload_n hX dX6_stack_0 rfl ?_
  refine g_iload_n hX dX6_stack_1 rfl ?_
  refine g_v1R hX lk_X6_66 dX6_stack_2 (c0 := 6) ok63 ⟨_, rfl, rfl⟩ (c_partOf hI hN hN40 hp) (by first | decide | omega) (by decide) rfl (Nat.le_of_ble_eq_true rfl) (fun r μ' hp => ?_)
  obtain ⟨rfl, hm⟩ := hp
  rw [hm]
  clear hm μ'
  by_cases h1 : 0 ≤ p ∧ p < (N : Int)
  rotate_left
  · rw [if_neg h1]
    rw [if_neg (by omega)] at hR
    show G V E μ 5 _ (Value.null :: [])
    refine st_astore_nN_5_3 hX dX6_stack_5 (by first | exact ck_i _ | exact ck_r _ _ | exact ck_n | exact ck_0) ?_
    refine g_aload_n hX dX6_stack_6 rfl ?_
    refine g_iload_n hX dX6_stack_7 rfl ?_
    refine g_v1R hX lk_X6_156 dX6_stack_8 (c0 := 6) ok63 ⟨_, rfl, rfl⟩ (c_stackOf hI hs) (by first | decide | omega) (by decide) rfl (Nat.le_of_ble_eq_true rfl) (fun r μ' hp => ?_)
    obtain ⟨rfl, hm⟩ := hp
    rw [hm]
    clear hm μ'
    by_cases h2 : 0 ≤ s ∧ s < 5
    · rw [if_pos h2]
      show G V E μ 11 _ (vr V (43 + s.toNat) :: [])
      refine st_astore_5_4 hX dX6_stack_11 (by first | exact ck_i _ | exact ck_r _ _ | exact ck_n | exact ck_0) ?_
      refine g_aload_nN hX dX6_stack_13 rfl ?_
      refine g_ifnullN (tgt := 22) hX dX6_stack_14 (by decide) ?_
      refine g_iconst hX dX6_stack_22 ?_
      refine g_iret hX hR dX6_stack_23 ⟨_, rfl, rfl, hR0, rfl⟩
    · rw [if_neg h2]
      show G V E μ 11 _ (Value.null :: [])
      refine st_astoreN_5_4 hX dX6_stack_11 (by first | exact ck_i _ | exact ck_r _ _ | exact ck_n | exact ck_0) ?_
      refine g_aload_nN hX dX6_stack_13 rfl ?_
      refine g_ifnullN (tgt := 22) hX dX6_stack_14 (by decide) ?_
      refine g_iconst hX dX6_stack_22 ?_
      refine g_iret hX hR dX6_stack_23 ⟨_, rfl, rfl, hR0, rfl⟩
  rw [if_pos h1]
  show G V E μ 5 _ (vr V p.toNat :: [])
  refine st_astore_n_5_3 hX dX6_stack_5 (by first | exact ck_i _ | exact ck_r _ _ | exact ck_n | exact ck_0) ?_
  refine g_aload_n hX dX6_stack_6 rfl ?_
  refine g_iload_n hX dX6_stack_7 rfl ?_
  refine g_v1R hX lk_X6_156 dX6_stack_8 (c0 := 6) ok63 ⟨_, rfl, rfl⟩ (c_stackOf hI hs) (by first | decide | omega) (by decide) rfl (Nat.le_of_ble_eq_true rfl) (fun r μ' hp => ?_)
  obtain ⟨rfl, hm⟩ := hp
  rw [hm]
  clear hm μ'
  by_cases h2 : 0 ≤ s ∧ s < 5
  rotate_left
  · rw [if_neg h2]
    rw [if_neg (by omega)] at hR
    show G V E μ 11 _ (Value.null :: [])
    refine st_astoreN_5_4 hX dX6_stack_11 (by first | exact ck_i _ | exact ck_r _ _ | exact ck_n | exact ck_0) ?_
    refine g_aload_n hX dX6_stack_13 rfl ?_
    refine g_ifnull hX dX6_stack_14 ?_
    refine g_aloadN hX dX6_stack_17 rfl ?_
    refine g_ifnonnullN hX dX6_stack_19 ?_
    refine g_iconst hX dX6_stack_22 ?_
    refine g_iret hX hR dX6_stack_23 ⟨_, rfl, rfl, hR0, rfl⟩
  rw [if_pos h2]
  rw [if_pos (by omega)] at hR
  obtain ⟨q, rfl⟩ : ∃ q : Nat, p = (q : Int) := ⟨p.toNat, by omega⟩
  obtain ⟨t, rfl⟩ : ∃ t : Nat, s = (t : Int) := ⟨s.toNat, by omega⟩
  rw [show ((q : Int)).toNat = q from rfl, show ((t : Int)).toNat = t from rfl] at *
  have hd := hR0.2.2.2.1 t (by omega)
  have hy := (hM.2.2.2.1.1 t (by omega)).1
  obtain ⟨h, hh⟩ : ∃ h : Nat, m 13 t = (h : Int) := ⟨(m 13 t).toNat, by omega⟩
  have hw := IM_p hM (i := q) (by omega)
  have e4 := xf4 hR0 (i := q) (by omega) (by omega)
  show G V E μ 11 _ (vr V (43 + t) :: [])
  refine st_astore_5_4 hX dX6_stack_11 (by first | exact ck_i _ | exact ck_r _ _ | exact ck_n | exact ck_0) ?_
  refine g_aload_n hX dX6_stack_13 rfl ?_
  refine g_ifnull hX dX6_stack_14 ?_
  refine g_aload hX dX6_stack_17 rfl ?_
  refine g_ifnonnull (tgt := 24) hX dX6_stack_19 (by decide) ?_
  refine g_aload_n hX dX6_stack_24 rfl ?_
  refine gf_X6_133 hX dX6_stack_25 (by first | assumption | exact okd_part (by omega) | exact okd_bed (by omega) | exact okd_pile (by omega) | exact okd_dpile (by omega)) ?_
  refine g_iconst hX dX6_stack_28 ?_
  rw [e4]
  refine g_icmp_eq (tgt := 35) hX dX6_stack_29 (by decide) ⟨by omega, by omega⟩ ⟨by omega, by omega⟩ (fun h3 => ?_) (fun h3 => ?_)
  rotate_left
  · rw [if_neg h3] at hR
    refine g_bipush hX dX6_stack_32 rfl ?_
    refine g_iret hX hR dX6_stack_34 ⟨_, rfl, rfl, hR0, rfl⟩
  rw [if_pos h3] at hR
  refine g_aload hX dX6_stack_35 rfl ?_
  refine g_v0I hX lk_X6_160 dX6_stack_37 (c0 := 5) (by first | assumption | exact okd_part (by omega) | exact okd_bed (by omega) | exact okd_pile (by omega) | exact okd_dpile (by omega)) ⟨_, rfl, rfl⟩ (c_hasRoom (h := h) hI (okd_pile (by omega)) (by rw [hd.1, hh]) (by omega)) (by first | decide | omega) (by decide) rfl (Nat.le_of_ble_eq_true rfl) (fun z μ' hp => ?_)
  obtain ⟨rfl, hm⟩ := hp
  rw [hm]
  clear hm μ'
  by_cases h4 : h < 4
  rotate_left
  · rw [if_neg h4]
    rw [if_neg (by omega)] at hR
    refine g_if_ne (tgt := 46) hX dX6_stack_40 (by decide) ⟨by omega, by omega⟩ (fun hc => absurd hc (by omega)) (fun _ => ?_)
    refine g_bipush hX dX6_stack_43 rfl ?_
    refine g_iret hX hR dX6_stack_45 ⟨_, rfl, rfl, hR0, rfl⟩
  rw [if_pos h4]
  rw [if_pos (by omega)] at hR
  refine g_if_ne (tgt := 46) hX dX6_stack_40 (by decide) ⟨by omega, by omega⟩ (fun _ => ?_) (fun hc => absurd hc (by omega))
  refine g_aload hX dX6_stack_46 rfl ?_
  refine g_iload_n hX dX6_stack_48 rfl ?_
  refine g_v1V hX lk_X6_164 dX6_stack_49 (c0 := 5) (by first | assumption | exact okd_part (by omega) | exact okd_bed (by omega) | exact okd_pile (by omega) | exact okd_dpile (by omega)) ⟨_, rfl, rfl⟩ (c_put (h := h) hI (okd_pile (by omega)) (by rw [hd.1, hh]) h4) (by first | decide | omega) (by decide) rfl (Nat.le_of_ble_eq_true rfl) (fun μ' hp => ?_)
  rw [hp]
  clear hp μ'
  refine g_aload_n hX dX6_stack_52 rfl ?_
  refine g_iconst hX dX6_stack_53 ?_
  refine g_iload_n hX dX6_stack_54 rfl ?_
  refine g_v2V hX lk_X6_104 dX6_stack_55 (c0 := 4) (by first | assumption | exact okd_part (by omega) | exact okd_bed (by omega) | exact okd_pile (by omega) | exact okd_dpile (by omega)) ⟨_, rfl, rfl⟩ (c_isNow hI (okd_part (by omega))) (by first | decide | omega) (by decide) rfl (Nat.le_of_ble_eq_true rfl) (fun μ' hp => ?_)
  rw [hp]
  clear hp μ'
  refine g_aload hX dX6_stack_58 rfl ?_
  refine gf_X6_168 hX dX6_stack_60 (by first | assumption | exact okd_part (by omega) | exact okd_bed (by omega) | exact okd_pile (by omega) | exact okd_dpile (by omega)) ?_
  simp (disch := omega) only [mset_ne, mset_same]
  refine g_iret hX hR dX6_stack_63 ⟨_, rfl, by rw [hh], ?_, ?_⟩
  · rw [show (m 13 t).toNat = h by omega, show 43 + t + 5 = 48 + t by omega]
    exact R_lay hR0 (by omega) hh h4 (IMy_4 hM) (by omega) (by omega)
  · rw [vw_out (by omega), vw_out (by omega), vw_out (by omega), vw_out (by omega)]
set_option maxHeartbeats 4000000 in
theorem x_go {lnch : Launch} {V : VX} (hI : InjV V) {μ : Mem} {m : Mem} {c : Nat} (hR0 : RelXM μ m) (hM : IM c m) : Ct lnch yX6_go cX6_go 4 (some .int) 2 V [vr V 63] μ (pI (XP μ (spGo m))) := by
  refine Ct_of (by decide) hI (Nat.le_of_ble_eq_true rfl) (fun E hE hX hR => ?_)
  have hX : OkX V E RX6 cX6_go 4 2 := hX
  show G V E μ 0 [some (vr V 63), none, none, none] []
  obtain ⟨N, hN40, hmN, hN⟩ := rel_n hR0 hM
  unfold spGo at hR
  obtain ⟨hl1, hl2, -⟩ := hM.2.2.2.2
  obtain ⟨h, hh⟩ : ∃ h : Nat, m 0 17 = (h : Int) := ⟨(m 0 17).toNat, by omega⟩
  have hE1 := hR0.2.2.2.2.1
  refine g_aload_n hX dX6_go_0 rfl ?_
  refine gf_X6_30 hX dX6_go_1 ?_
  refine gf_X6_212 hX dX6_go_4 ?_
  refine st_istore_n_4_1 hX dX6_go_7 (by first | exact ck_i _ | exact ck_r _ _ | exact ck_n | exact ck_0) ?_
  refine g_iload_n hX dX6_go_8 rfl ?_
  rw [hE1]
  refine g_if_ne (tgt := 15) hX dX6_go_9 (by decide) ⟨by omega, by omega⟩ (fun h1 => ?_) (fun h1 => ?_)
  rotate_left
  · rw [if_pos h1] at hR
    refine g_bipush hX dX6_go_12 rfl ?_
    refine g_iret hX hR dX6_go_14 ⟨_, rfl, rfl, hR0, rfl⟩
  rw [if_neg h1] at hR
  have loop : ∀ (d k : Nat) (ν : Mem), k + d = h → RelXM ν (goK m k) → vw ν = vw μ → G V E ν 17 [some (vr V 63), some (vi (m 0 17)), some (vi (k : Int)), none] [] := by
    intro d
    induction d with
    | zero =>
      intro k ν hk hRk hv
      have hs := hRk.1.2.2.1
      refine g_iload_n hX dX6_go_17 rfl ?_
      refine g_iload_n hX dX6_go_18 rfl ?_
      refine g_icmp_ge (tgt := 54) hX dX6_go_19 (by decide) ⟨by omega, by omega⟩ ⟨by omega, by omega⟩ (fun _ => ?_) (fun hc => absurd hc (by omega))
      refine g_aload_n hX dX6_go_54 rfl ?_
      refine g_dup hX dX6_go_55 rfl ?_
      refine gf_X6_216 hX dX6_go_56 ?_
      refine g_iconst hX dX6_go_59 ?_
      refine g_iadd hX dX6_go_60 ?_
      refine pf_X6_216 hX dX6_go_61 ?_
      refine g_aload_n hX dX6_go_64 rfl ?_
      refine gf_X6_30 hX dX6_go_65 ?_
      refine g_v0V hX lk_X6_219 dX6_go_68 (c0 := 2) ok67 ⟨_, rfl, rfl⟩ (c_lclear hI) (by first | decide | omega) (by decide) rfl (Nat.le_of_ble_eq_true rfl) (fun μ' hp => ?_)
      rw [hp]
      clear hp μ'
      refine g_iload_n hX dX6_go_71 rfl ?_
      refine g_iret hX hR dX6_go_72 ⟨_, rfl, rfl, ?_, ?_⟩
      · rw [show (m 0 17).toNat = k by omega, hs, goK_ne m (by decide) (by decide)]
        have := R_lcl (R_sc (jx := 8) (jm := 19) (v := m 0 19 + 1) hRk (by decide))
        rw [mset_comm (a := 0) (b := 19) (by omega)] at this
        exact this
      · rw [vw_out (by omega), vw_out (by omega), vw_out (by omega), vw_out (by omega), vw_out (by omega), hv]
    | succ d ih =>
      intro k ν hk hRk hv
      have hlk := hl2 k (by omega)
      obtain ⟨q, hq⟩ : ∃ q : Nat, m 15 k = (q : Int) := ⟨(m 15 k).toNat, by omega⟩
      have hEk := hRk.2.2.2.2
      have e0 : goK m k 0 0 = m 0 0 := goK_ne m (by decide) (by decide) k
      have hNk : ν 63 6 = (N : Int) := by rw [hRk.1.1, e0]; exact hmN
      refine g_iload_n hX dX6_go_17 rfl ?_
      refine g_iload_n hX dX6_go_18 rfl ?_
      refine g_icmp_ge (tgt := 54) hX dX6_go_19 (by decide) ⟨by omega, by omega⟩ ⟨by omega, by omega⟩ (fun hc => absurd hc (by omega)) (fun _ => ?_)
      refine g_aload_n hX dX6_go_22 rfl ?_
      refine g_aload_n hX dX6_go_23 rfl ?_
      refine gf_X6_30 hX dX6_go_24 ?_
      refine g_iload_n hX dX6_go_27 rfl ?_
      refine g_v1I hX lk_X6_213 dX6_go_28 (c0 := 2) ok67 ⟨_, rfl, rfl⟩ (c_partOn (h := h) hI (by rw [hEk.1, goK_ne m (by decide) (by decide)]; exact hh) (by omega) (by omega)) (by first | decide | omega) (by decide) rfl (Nat.le_of_ble_eq_true rfl) (fun z μ' hp => ?_)
      obtain ⟨rfl, hm⟩ := hp
      rw [hm]
      clear hm μ'
      rw [hEk.2.2.2.2 k (by rw [goK_ne m (by decide) (by decide)]; omega), goK_ne m (by decide) (by decide), hq]
      refine g_v1R hX lk_X6_66 dX6_go_31 (c0 := 6) ok63 ⟨_, rfl, rfl⟩ (c_partOf hI hNk hN40 ⟨by omega, by omega⟩) (by first | decide | omega) (by decide) rfl (Nat.le_of_ble_eq_true rfl) (fun r μ' hp => ?_)
      obtain ⟨rfl, hm⟩ := hp
      rw [hm]
      clear hm μ'
      rw [if_pos (by omega), show ((q : Int)).toNat = q from rfl]
      show G V E _ 34 _ (vr V q :: [])
      refine st_astore_n_4_3 hX dX6_go_34 (by first | exact ck_i _ | exact ck_r _ _ | exact ck_n | exact ck_0) ?_
      refine g_aload_n hX dX6_go_35 rfl ?_
      refine g_ifnull hX dX6_go_36 ?_
      refine g_aload_n hX dX6_go_39 rfl ?_
      refine g_iconst hX dX6_go_40 ?_
      refine g_aload_n hX dX6_go_41 rfl ?_
      refine gf_X6_216 hX dX6_go_42 ?_
      refine g_v2V hX lk_X6_104 dX6_go_45 (c0 := 4) (by first | assumption | exact okd_part (by omega) | exact okd_bed (by omega) | exact okd_pile (by omega) | exact okd_dpile (by omega)) ⟨_, rfl, rfl⟩ (c_isNow hI (okd_part (by omega))) (by first | decide | omega) (by decide) rfl (Nat.le_of_ble_eq_true rfl) (fun μ' hp => ?_)
      rw [hp]
      clear hp μ'
      refine st_iinc_4_2 hX dX6_go_48 (by first | exact ck_i _ | exact ck_r _ _ | exact ck_n | exact ck_0) ?_
      refine g_goto (tgt := 17) hX dX6_go_51 (by decide) ?_
      refine fg_4_3 ?_
      refine ih (k + 1) _ (by omega) ?_ (by rw [vw_out (by omega), vw_out (by omega), hv])
      show RelXM _ (mset (mset (goK m k) 5 (m 15 k).toNat 4) 6 (m 15 k).toNat (m 0 19))
      rw [hq, show ((q : Int)).toNat = q from rfl]
      have h2 := R_pf4 (p := q) (v := 4) hRk (by rw [e0]; omega) (by omega)
      have h3 := R_pf5 (p := q) (v := m 0 19) h2 (by rw [mset_ne (Or.inl (by decide)), e0]; omega) (by omega)
      rw [hRk.1.2.2.1, goK_ne m (by decide) (by decide)]
      exact h3
  refine g_iconst hX dX6_go_15 ?_
  refine st_istore_n_4_2 hX dX6_go_16 (by first | exact ck_i _ | exact ck_r _ _ | exact ck_n | exact ck_0) ?_
  exact loop h 0 μ (by omega) hR0 rfl
/-- the stack s, as far as the loops over its top one ask -/
def SI (m : Mem) (s n : Nat) : Prop := m 0 0 = (n : Int) ∧ n ≤ 40 ∧ (0 ≤ m 13 s ∧ m 13 s ≤ 4) ∧ (∀ k : Nat, (k : Int) < m 13 s → 0 ≤ m 14 (4 * s + k) ∧ m 14 (4 * s + k) < (n : Int)) ∧ ∀ i : Nat, (i : Int) < (n : Int) → m 8 i = 0 ∨ m 8 i = 1
def topM (m : Mem) (s : Nat) : Nat := (m 14 (4 * s + ((m 13 s).toNat - 1))).toNat
def popM (m : Mem) (s : Nat) : Mem := mset (mset (mset (mset m 13 s (m 13 s - 1)) 8 (topM m s) 0) 5 (topM m s) 5) 6 (topM m s) (-4)
def clrM (s : Nat) : Nat → Mem → Mem
  | 0, m => m
  | f + 1, m => if 0 < m 13 s ∧ m 8 (topM m s) = 1 then clrM s f (popM m s) else m
theorem SI_of {c : Nat} {m : Mem} {s n : Nat} (hM : IM c m) (hs : s < 5) (hn : m 0 0 = (n : Int)) : SI m s n := by
  have hy := hM.2.2.2.1.1 s hs
  have h0 := hM.1.1
  exact ⟨hn, by omega, hy.1, fun k hk => by have := hy.2.1 k hk; omega, fun i hi => (IM_p hM (i := i) (by omega)).2.2.2.2.2.2⟩
theorem SI_pop {m : Mem} {s n : Nat} (h : SI m s n) (h0 : 0 < m 13 s) : SI (popM m s) s n := by
  obtain ⟨h1, h2, h3, h4, h5⟩ := h
  unfold popM
  refine ⟨?_, h2, ?_, fun k hk => ?_, fun i hi => ?_⟩
  · simp (disch := omega) only [mset_ne]; exact h1
  · simp (disch := omega) only [mset_ne, mset_same]; omega
  · simp (disch := omega) only [mset_ne, mset_same] at hk ⊢
    exact h4 k (by omega)
  · rw [mset_ne (Or.inl (by decide)), mset_ne (Or.inl (by decide))]
    by_cases hi2 : i = topM m s
    · subst hi2; rw [mset_same]; exact Or.inl rfl
    · rw [mset_ne (Or.inr hi2), mset_ne (Or.inl (by decide))]; exact h5 i hi
theorem top_in {m : Mem} {s n : Nat} (h : SI m s n) (h0 : 0 < m 13 s) : (topM m s : Int) = m 14 (4 * s + ((m 13 s).toNat - 1)) ∧ topM m s < n := by
  have := h.2.2.2.1 ((m 13 s).toNat - 1) (by omega)
  unfold topM
  omega
theorem R_pop {ν m : Mem} {s n : Nat} (hR : RelXM ν m) (hs : s < 5) (h : SI m s n) (h0 : 0 < m 13 s) : RelXM (mset (mset (mset (mset ν (43 + s) 1 (m 13 s - 1)) (topM m s) 4 5) (topM m s) 5 (-4)) (topM m s) 7 0) (popM m s) := by
  have ht := (top_in h h0).2
  have hn := h.1
  have h40 := h.2.1
  have r1 := R_hgt (v := m 13 s - 1) hR hs (by omega)
  have r2 := R_pf4 (p := topM m s) (v := 5) r1 (by simp (disch := omega) only [mset_ne]; omega) (by omega)
  have r3 := R_pf5 (p := topM m s) (v := -4) r2 (by simp (disch := omega) only [mset_ne]; omega) (by omega)
  have r4 := R_pf7 (p := topM m s) (v := 0) r3 (by simp (disch := omega) only [mset_ne]; omega) (by omega)
  unfold popM
  rw [mset_comm (a := 6) (c := 8) (by omega), mset_comm (a := 5) (c := 8) (by omega)] at r4
  exact r4
set_option maxHeartbeats 4000000 in
theorem c_strikeTops {lnch : Launch} {V : VX} (hI : InjV V) {μ : Mem} {m : Mem} {s n : Nat} (hR0 : RelXM μ m) (hs : s < 5) (hsi : SI m s n) : Ct lnch yX6_strikeTops cX6_strikeTops 4 none 4 V [vr V 63, vr V (43 + s)] μ (pV (fun μ' => RelXM μ' (clrM s 4 m) ∧ vw μ' = vw μ)) := by
  refine Ct_of (by decide) hI (Nat.le_of_ble_eq_true rfl) (fun E hE hX hR => ?_)
  have hX : OkX V E RX6 cX6_strikeTops 4 4 := hX
  show G V E μ 0 [some (vr V 63), some (vr V (43 + s)), none, none] []
  have loop : ∀ (f : Nat) (ν m1 : Mem) (i : Nat), i + f = 4 → RelXM ν m1 → SI m1 s n → clrM s f m1 = clrM s 4 m → vw ν = vw μ → G V E ν 2 [some (vr V 63), some (vr V (43 + s)), some (vi (i : Int)), none] [] := by
    intro f
    induction f with
    | zero =>
      intro ν m1 i hi hR1 hs1 hc hv
      refine g_aload_n hX dX6_strikeTops_2 rfl ?_
      refine g_ifnull hX dX6_strikeTops_3 ?_
      refine g_iload_n hX dX6_strikeTops_6 rfl ?_
      refine g_iconst hX dX6_strikeTops_7 ?_
      refine g_icmp_ge (tgt := 47) hX dX6_strikeTops_8 (by decide) ⟨by omega, by omega⟩ ⟨by omega, by omega⟩ (fun _ => ?_) (fun hc => absurd hc (by omega))
      refine g_vret hX hR dX6_strikeTops_47 ⟨rfl, by rw [← hc]; exact hR1, hv⟩
    | succ f ih =>
      intro ν m1 i hi hR1 hs1 hc hv
      have hd := hR1.2.2.2.1 s hs
      have h34 := hs1.2.2.1
      have h40 := hs1.2.1
      have hnn := hs1.1
      have hX6 : ν 63 6 = (n : Int) := by rw [hR1.1.1]; exact hs1.1
      obtain ⟨h, hh⟩ : ∃ h : Nat, m1 13 s = (h : Int) := ⟨(m1 13 s).toNat, by omega⟩
      have e5 : 43 + s + 5 = 48 + s := by omega
      refine g_aload_n hX dX6_strikeTops_2 rfl ?_
      refine g_ifnull hX dX6_strikeTops_3 ?_
      refine g_iload_n hX dX6_strikeTops_6 rfl ?_
      refine g_iconst hX dX6_strikeTops_7 ?_
      refine g_icmp_ge (tgt := 47) hX dX6_strikeTops_8 (by decide) ⟨by omega, by omega⟩ ⟨by omega, by omega⟩ (fun hc => absurd hc (by omega)) (fun _ => ?_)
      refine g_aload_n hX dX6_strikeTops_11 rfl ?_
      refine g_aload_n hX dX6_strikeTops_12 rfl ?_
      refine g_v0I hX lk_X6_171 dX6_strikeTops_13 (c0 := 5) (by first | assumption | exact okd_part (by omega) | exact okd_bed (by omega) | exact okd_pile (by omega) | exact okd_dpile (by omega)) ⟨_, rfl, rfl⟩ (c_top (h := h) hI (okd_pile hs) (by rw [hd.1, hh]) (by omega)) (by first | decide | omega) (by decide) rfl (Nat.le_of_ble_eq_true rfl) (fun z μ' hp => ?_)
      obtain ⟨rfl, hm⟩ := hp
      rw [hm]
      clear hm μ'
      by_cases h0 : 0 < h
      · have ht := top_in hs1 (by omega)
        have etop : ν (43 + s + 5) (h - 1) = (topM m1 s : Int) := by
          rw [e5, hd.2 (h - 1) (by omega), ht.1, show (m1 13 s).toNat = h by omega]
        rw [if_pos h0, etop]
        have ht2 := ht.2
        refine g_v1R hX lk_X6_66 dX6_strikeTops_16 (c0 := 6) ok63 ⟨_, rfl, rfl⟩ (c_partOf hI hX6 h40 ⟨by omega, by omega⟩) (by first | decide | omega) (by decide) rfl (Nat.le_of_ble_eq_true rfl) (fun r μ' hp => ?_)
        obtain ⟨rfl, hm⟩ := hp
        rw [hm]
        clear hm μ'
        rw [if_pos (by omega), show ((topM m1 s : Nat) : Int).toNat = topM m1 s from rfl]
        show G V E ν 19 _ (vr V (topM m1 s) :: [])
        have e7 := xf7 hR1 (i := topM m1 s) (by omega) (by omega)
        have h01 := hs1.2.2.2.2 (topM m1 s) (by omega)
        refine st_astore_n_4_3 hX dX6_strikeTops_19 (by first | exact ck_i _ | exact ck_r _ _ | exact ck_n | exact ck_0) ?_
        refine g_aload_n hX dX6_strikeTops_20 rfl ?_
        refine g_ifnull hX dX6_strikeTops_21 ?_
        refine g_aload_n hX dX6_strikeTops_24 rfl ?_
        refine gf_X6_146 hX dX6_strikeTops_25 (by first | assumption | exact okd_part (by omega) | exact okd_bed (by omega) | exact okd_pile (by omega) | exact okd_dpile (by omega)) ?_
        rw [e7]
        refine g_if_ne (tgt := 32) hX dX6_strikeTops_28 (by decide) ⟨by omega, by omega⟩ (fun h2 => ?_) (fun h2 => ?_)
        · have hone : m1 8 (topM m1 s) = 1 := by omega
          refine g_aload_n hX dX6_strikeTops_32 rfl ?_
          refine g_v0I hX lk_X6_174 dX6_strikeTops_33 (c0 := 5) (by first | assumption | exact okd_part (by omega) | exact okd_bed (by omega) | exact okd_pile (by omega) | exact okd_dpile (by omega)) ⟨_, rfl, rfl⟩ (c_takeOff (h := h) hI (okd_pile hs) (by rw [hd.1, hh]) (by omega) h0) (by first | decide | omega) (by decide) rfl (Nat.le_of_ble_eq_true rfl) (fun z μ' hp => ?_)
          obtain ⟨rfl, hm⟩ := hp
          rw [hm]
          clear hm μ'
          refine g_pop hX dX6_strikeTops_36 rfl ?_
          refine g_aload_n hX dX6_strikeTops_37 rfl ?_
          refine g_v0V hX lk_X6_150 dX6_strikeTops_38 (c0 := 4) (by first | assumption | exact okd_part (by omega) | exact okd_bed (by omega) | exact okd_pile (by omega) | exact okd_dpile (by omega)) ⟨_, rfl, rfl⟩ (c_isStruck hI (okd_part (by omega))) (by first | decide | omega) (by decide) rfl (Nat.le_of_ble_eq_true rfl) (fun μ' hp => ?_)
          rw [hp]
          clear hp μ'
          refine st_iinc_4_2 hX dX6_strikeTops_41 (by first | exact ck_i _ | exact ck_r _ _ | exact ck_n | exact ck_0) ?_
          refine g_goto (tgt := 2) hX dX6_strikeTops_44 (by decide) ?_
          refine fg_4_3 ?_
          refine ih _ (popM m1 s) (i + 1) (by omega) ?_ (SI_pop hs1 (by omega)) ?_ ?_
          · rw [← hh]
            exact R_pop hR1 hs hs1 (by omega)
          · rw [← hc]
            show _ = if 0 < m1 13 s ∧ m1 8 (topM m1 s) = 1 then clrM s f (popM m1 s) else m1
            rw [if_pos ⟨by omega, hone⟩]
          · rw [vw_out (by omega), vw_out (by omega), vw_out (by omega), vw_out (by omega), hv]
        · refine g_vret hX hR dX6_strikeTops_31 ⟨rfl, ?_, hv⟩
          rw [← hc]
          show RelXM ν (if 0 < m1 13 s ∧ m1 8 (topM m1 s) = 1 then clrM s f (popM m1 s) else m1)
          rw [if_neg (by omega)]
          exact hR1
      · rw [if_neg h0]
        refine g_v1R hX lk_X6_66 dX6_strikeTops_16 (c0 := 6) ok63 ⟨_, rfl, rfl⟩ (c_partOf hI hX6 h40 ⟨by omega, by omega⟩) (by first | decide | omega) (by decide) rfl (Nat.le_of_ble_eq_true rfl) (fun r μ' hp => ?_)
        obtain ⟨rfl, hm⟩ := hp
        rw [hm]
        clear hm μ'
        rw [if_neg (by omega)]
        show G V E ν 19 _ (Value.null :: [])
        refine st_astore_nN_4_3 hX dX6_strikeTops_19 (by first | exact ck_i _ | exact ck_r _ _ | exact ck_n | exact ck_0) ?_
        refine g_aload_nN hX dX6_strikeTops_20 rfl ?_
        refine g_ifnullN (tgt := 31) hX dX6_strikeTops_21 (by decide) ?_
        refine g_vret hX hR dX6_strikeTops_31 ⟨rfl, ?_, hv⟩
        rw [← hc]
        show RelXM ν (if 0 < m1 13 s ∧ m1 8 (topM m1 s) = 1 then clrM s f (popM m1 s) else m1)
        rw [if_neg (by omega)]
        exact hR1
  refine g_iconst hX dX6_strikeTops_0 ?_
  refine st_istore_n_4_2 hX dX6_strikeTops_1 (by first | exact ck_i _ | exact ck_r _ _ | exact ck_n | exact ck_0) ?_
  exact loop 4 μ m 0 (by omega) hR0 hsi rfl rfl
