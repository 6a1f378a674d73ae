/-! the class's cast -/
theorem cstR_ne (m : Mem) (b f : Nat) (bits : Int) {c j : Nat} (h : c ≠ 5 ∧ c ≠ 6 ∧ c ≠ 9 ∧ c ≠ 10 ∧ c ≠ 12) : ∀ k, cstR m b f bits k c j = m c j := by
  intro k
  induction k with
  | zero => rfl
  | succ k ih =>
    unfold cstR
    split
    · unfold addB
      rw [mset_ne (Or.inl (by omega)), mset_ne (Or.inl (by omega)), mset_ne (Or.inl (by omega)), mset_ne (Or.inl (by omega)), mset_ne (Or.inl (by omega))]
      exact ih
    · exact ih
theorem cstR_9 (m : Mem) (b f : Nat) (bits : Int) (h0 : m 9 b = 0) : ∀ k, cstR m b f bits k 9 b = (cntB bits k : Int) := by
  intro k
  induction k with
  | zero => exact h0
  | succ k ih =>
    unfold cstR cntB
    split
    · unfold addB
      rw [mset_ne (Or.inl (by decide)), mset_same, ih]
      omega
    · exact ih
theorem cstR_9o (m : Mem) (b f : Nat) (bits : Int) {b' : Nat} (hb : b' ≠ b) : ∀ k, cstR m b f bits k 9 b' = m 9 b' := by
  intro k
  induction k with
  | zero => rfl
  | succ k ih =>
    unfold cstR
    split
    · unfold addB
      rw [mset_ne (Or.inl (by decide)), mset_ne (Or.inr hb), mset_ne (Or.inl (by decide)), mset_ne (Or.inl (by decide)), mset_ne (Or.inl (by decide))]
      exact ih
    · exact ih
theorem cntB_le (bits : Int) : ∀ k, cntB bits k ≤ k := by
  intro k
  induction k with
  | zero => exact Nat.le_refl 0
  | succ k ih => unfold cntB; split <;> omega
theorem R_addB {ν m : Mem} {b q h : Nat} (hR : RelXM ν m) (hb : b < 3) (hh : m 9 b = (h : Int)) (h40 : h < 40) (ho : ∀ b', b' < 3 → m 9 b' ≤ 40) (hq : (q : Int) < m 0 0) (hq40 : q < 40) :
    RelXM (mset (mset (mset (mset (mset ν q 4 1) q 5 (b : Int)) (40 + b) 1 (ν (40 + b) 1 + (if h = 0 then m 1 q else 4 + m 1 q))) (40 + b) 0 ((h : Int) + 1)) (40 + b) 3 (m 0 14)) (addB m b q) := by
  have r1 := R_pf4 (p := q) (v := 1) hR hq hq40
  have r2 := R_pf5 (p := q) (v := (b : Int)) r1 (by rw [mset_ne (Or.inl (by decide))]; exact hq) hq40
  have hC0 := hR.2.2.1
  obtain ⟨hA, hB, hC, hD, hE⟩ := r2
  unfold addB
  rw [hh, show ((h : Int)).toNat = h from rfl]
  refine ⟨?_, fun i j' hi hj' => ?_, fun b' hb3 => ?_, fun t ht => ?_, ?_⟩
  · simp (disch := omega) only [mset_ne] at hA ⊢; exact hA
  · have hBi := hB i j' hi hj'
    unfold pvF at hBi ⊢
    rw [mset_ne (k' := i) (Or.inl (by omega)), mset_ne (k' := i) (Or.inl (by omega)), mset_ne (k' := i) (Or.inl (by omega)), hBi]
    rw [mset_ne (k := 12) (Or.inl (by omega)), mset_ne (k := 9) (Or.inl (by omega)), mset_ne (k := 10) (Or.inl (by omega))]
    rw [mset_ne (k := 12) (k' := 1 + j') (Or.inl (by omega)), mset_ne (k := 9) (k' := 1 + j') (Or.inl (by omega)), mset_ne (k := 10) (k' := 1 + j') (Or.inl (by omega))]
  · by_cases e : b' = b
    · subst e
      have hc := hC0 b' hb3
      simp (disch := omega) only [mset_ne, mset_same]
      refine ⟨trivial, ?_, hc.2.2.1, trivial⟩
      unfold bedlen
      simp (disch := omega) only [mset_ne, mset_same]
      rw [if_neg (show ¬ ((h : Int) + 1 = 0) by omega), show ((h : Int) + 1).toNat = h + 1 by omega]
      show _ = bedK _ b' h + (_ + 4)
      rw [bedK_cg (m := m) (fun k hk => ⟨by simp (disch := omega) only [mset_ne], by simp (disch := omega) only [mset_ne]⟩)]
      simp (disch := omega) only [mset_ne, mset_same]
      rw [show ((q : Int)).toNat = q from rfl]
      have hl := hc.2.1
      unfold bedlen at hl
      rw [hh, show ((h : Int)).toNat = h from rfl] at hl
      by_cases h0 : h = 0
      · subst h0
        rw [if_pos (show ((0 : Nat) : Int) = 0 from rfl)] at hl
        rw [if_pos rfl, hl]
        show _ = -4 + (m 1 q + 4)
        omega
      · rw [if_neg (by omega)] at hl
        rw [if_neg h0, hl]
        omega
    · have hc := hC0 b' hb3
      have h9 := ho b' hb3
      rw [bedlen_cg (m := m) (by simp (disch := omega) only [mset_ne]) (fun k hk => ⟨by simp (disch := omega) only [mset_ne], by simp (disch := omega) only [mset_ne]⟩)]
      simp (disch := omega) only [mset_ne]
      exact hc
  · have hd := hD t ht
    simp (disch := omega) only [mset_ne] at hd ⊢; exact hd
  · obtain ⟨h1, h2, h3, h4, h5⟩ := hE
    have e3 : ∀ k : Nat, k < (m 0 17).toNat → mset (mset (mset (mset (mset m 5 q 1) 6 q (b : Int)) 10 (40 * b + h) (q : Int)) 9 b ((h : Int) + 1)) 12 b (m 0 14) 15 k = (mset (mset m 5 q 1) 6 q (b : Int)) 15 k ∧ mset (mset (mset (mset (mset m 5 q 1) 6 q (b : Int)) 10 (40 * b + h) (q : Int)) 9 b ((h : Int) + 1)) 12 b (m 0 14) 3 ((mset (mset m 5 q 1) 6 q (b : Int)) 15 k).toNat = (mset (mset m 5 q 1) 6 q (b : Int)) 3 ((mset (mset m 5 q 1) 6 q (b : Int)) 15 k).toNat := fun k hk => ⟨by simp (disch := omega) only [mset_ne], by simp (disch := omega) only [mset_ne]⟩
    rw [show (mset (mset (mset (mset (mset m 5 q 1) 6 q (b : Int)) 10 (40 * b + h) (q : Int)) 9 b ((h : Int) + 1)) 12 b (m 0 14)) 0 17 = m 0 17 by simp (disch := omega) only [mset_ne], heavyK_cg e3, frontK_cg e3, rearK_cg e3]
    rw [show (mset (mset m 5 q 1) 6 q (b : Int)) 0 17 = m 0 17 by simp (disch := omega) only [mset_ne]] at h1 h2 h3 h4 h5
    simp (disch := omega) only [mset_ne] at h1 h2 h3 h4 ⊢
    refine ⟨h1, h2, h3, h4, fun k hk => ?_⟩
    have := h5 k hk
    simp (disch := omega) only [mset_ne] at this ⊢
    exact this
set_option maxHeartbeats 4000000 in
theorem x_cast {lnch : Launch} {V : VX} (hI : InjV V) {μ : Mem} {m : Mem} {c : Nat} {b f bits : Int} (hR0 : RelXM μ m) (hM : IM c m) (hb : in32 b) (hf : in32 f) (hbits : in32 bits) (hc : c ≤ 100000) : Ct lnch yX6_cast cX6_cast 7 (some .int) 3 V [vr V 63, vi b, vi f, vi bits] μ (pI (XP μ (spCast m b f bits))) := by
  refine Ct_of (by decide) hI (Nat.le_of_ble_eq_true rfl) (fun E hE hX hR => ?_)
  have hX : OkX V E RX6 cX6_cast 7 3 := hX
  show G V E μ 0 [some (vr V 63), some (vi b), some (vi f), some (vi bits), none, none, none] []
  obtain ⟨N, hN40, hmN, hN⟩ := rel_n hR0 hM
  unfold spCast at hR
  obtain ⟨hbt1, hbt2⟩ := hbits
  have bad : ∀ (x : Option Value), ¬ ((0 ≤ b ∧ b < 3) ∧ (0 ≤ f ∧ f < m 0 0) ∧ bits ≠ 0 ∧ inBb m f.toNat bits = true) → G V E μ 33 [some (vr V 63), some (vi b), some (vi f), some (vi bits), x, none, none] [] := fun x h => by
    rw [if_neg h] at hR
    refine g_iconst hX dX6_cast_33 ?_
    refine g_iret hX hR dX6_cast_34 ⟨_, rfl, rfl, hR0, rfl⟩
  refine g_aload_n hX dX6_cast_0 rfl ?_
  refine g_iload_n hX dX6_cast_1 rfl ?_
  refine g_v1R hX lk_X6_88 dX6_cast_2 (c0 := 6) ok63 ⟨_, rfl, rfl⟩ (c_bedOf hI hb) (by first | decide | omega) (by decide) rfl (Nat.le_of_ble_eq_true rfl) (fun r μ' hp => ?_)
  obtain ⟨rfl, hm⟩ := hp
  rw [hm]
  clear hm μ'
  by_cases h1 : 0 ≤ b ∧ b < 3
  rotate_left
  · rw [if_neg h1]
    show G V E μ 5 _ (Value.null :: [])
    refine st_astoreN_7_4 hX dX6_cast_5 (by first | exact ck_i _ | exact ck_r _ _ | exact ck_n | exact ck_0) ?_
    refine g_aloadN hX dX6_cast_7 rfl ?_
    refine g_ifnullN (tgt := 33) hX dX6_cast_9 (by decide) ?_
    exact bad _ (fun h => h1 h.1)
  rw [if_pos h1]
  obtain ⟨t, rfl⟩ : ∃ t : Nat, b = (t : Int) := ⟨b.toNat, by omega⟩
  rw [show ((t : Int)).toNat = t from rfl] at *
  have ht3 : t < 3 := by omega
  show G V E μ 5 _ (vr V (40 + t) :: [])
  refine st_astore_7_4 hX dX6_cast_5 (by first | exact ck_i _ | exact ck_r _ _ | exact ck_n | exact ck_0) ?_
  refine g_aload hX dX6_cast_7 rfl ?_
  refine g_ifnull hX dX6_cast_9 ?_
  refine g_aload_n hX dX6_cast_12 rfl ?_
  refine g_iload_n hX dX6_cast_13 rfl ?_
  refine g_v1R hX lk_X6_66 dX6_cast_14 (c0 := 6) ok63 ⟨_, rfl, rfl⟩ (c_partOf hI hN hN40 hf) (by first | decide | omega) (by decide) rfl (Nat.le_of_ble_eq_true rfl) (fun r μ' hp => ?_)
  obtain ⟨rfl, hm⟩ := hp
  rw [hm]
  clear hm μ'
  by_cases h2 : 0 ≤ f ∧ f < (N : Int)
  rotate_left
  · rw [if_neg h2]
    show G V E μ 17 _ (Value.null :: [])
    refine g_ifnullN (tgt := 33) hX dX6_cast_17 (by decide) ?_
    exact bad _ (fun h => h2 (by omega))
  rw [if_pos h2]
  obtain ⟨g, rfl⟩ : ∃ g : Nat, f = (g : Int) := ⟨f.toNat, by omega⟩
  rw [show ((g : Int)).toNat = g from rfl] at *
  show G V E μ 17 _ (vr V g :: [])
  refine g_ifnull hX dX6_cast_17 ?_
  refine g_iload_n hX dX6_cast_20 rfl ?_
  refine g_if_eq (tgt := 33) hX dX6_cast_21 (by decide) ⟨by omega, by omega⟩ (fun h3 => ?_) (fun h3 => ?_)
  · exact bad _ (fun h => h.2.2.1 h3)
  refine g_aload_n hX dX6_cast_24 rfl ?_
  refine g_iload_n hX dX6_cast_25 rfl ?_
  refine g_iload_n hX dX6_cast_26 rfl ?_
  refine g_v2I hX lk_X6_92 dX6_cast_27 (c0 := 6) ok63 ⟨_, rfl, rfl⟩ (c_areParts hI hN hmN hN40 (by omega)) (by first | decide | omega) (by decide) rfl (Nat.le_of_ble_eq_true rfl) (fun z μ' hp => ?_)
  obtain ⟨hz, hm⟩ := hp
  rw [hm]; clear hm μ'
  rcases hz with ⟨rfl, hin⟩ | ⟨rfl, hin⟩
  rotate_left
  · refine g_if_ne (tgt := 35) hX dX6_cast_30 (by decide) ⟨by omega, by omega⟩ (fun hc => absurd hc (by omega)) (fun _ => ?_)
    exact bad _ (fun h => hin ((inB_dec m g bits).mpr h.2.2.2))
  rw [if_pos ⟨h1, by omega, h3, (inB_dec m g bits).mp hin⟩] at hR
  refine g_if_ne (tgt := 35) hX dX6_cast_30 (by decide) ⟨by omega, by omega⟩ (fun _ => ?_) (fun hc => absurd hc (by omega))
  have hd := hR0.2.2.1 t ht3
  have hy := hM.2.2.1
  have hyt := hy t ht3
  have no : ¬ (m 9 t = 0 ∧ okB m g bits 32 = true ∧ sumB m g bits 32 ≤ 300) → G V E μ 52 [some (vr V 63), some (vi (t : Int)), some (vi (g : Int)), some (vi bits), some (vr V (40 + t)), none, none] [] := fun h => by
    rw [if_neg h] at hR
    refine g_bipush hX dX6_cast_52 rfl ?_
    refine g_iret hX hR dX6_cast_54 ⟨_, rfl, rfl, hR0, rfl⟩
  refine g_aload hX dX6_cast_35 rfl ?_
  refine gf_X6_96 hX dX6_cast_37 (by first | assumption | exact okd_part (by omega) | exact okd_bed (by omega) | exact okd_pile (by omega) | exact okd_dpile (by omega)) ?_
  rw [hd.1]
  refine g_if_gt (tgt := 52) hX dX6_cast_40 (by decide) ⟨by omega, by omega⟩ (fun h4 => ?_) (fun h4 => ?_)
  · exact no (fun h => by omega)
  refine g_aload_n hX dX6_cast_43 rfl ?_
  refine g_iload_n hX dX6_cast_44 rfl ?_
  refine g_iload_n hX dX6_cast_45 rfl ?_
  refine g_v2I hX lk_X6_98 dX6_cast_46 (c0 := 6) ok63 ⟨_, rfl, rfl⟩ (c_areDAF hI hR0 hM hN hmN hN40 (by omega) hin) (by first | decide | omega) (by decide) rfl (Nat.le_of_ble_eq_true rfl) (fun z μ' hp => ?_)
  obtain ⟨hz, hm⟩ := hp
  rw [hm]; clear hm μ'
  rcases hz with ⟨rfl, hok, hsm⟩ | ⟨rfl, hok⟩
  rotate_left
  · refine g_if_ne (tgt := 55) hX dX6_cast_49 (by decide) ⟨by omega, by omega⟩ (fun hc => absurd hc (by omega)) (fun _ => ?_)
    exact no (fun h => hok h.2)
  have h90 : m 9 t = 0 := by omega
  rw [if_pos ⟨h90, hok, hsm⟩] at hR
  refine g_if_ne (tgt := 55) hX dX6_cast_49 (by decide) ⟨by omega, by omega⟩ (fun _ => ?_) (fun hc => absurd hc (by omega))
  have loop : ∀ (d k : Nat) (ν : Mem), k + d = 32 → RelXM ν (cstR m t g bits k) → vw ν = vw μ → G V E ν 58 [some (vr V 63), some (vi (t : Int)), some (vi (g : Int)), some (vi bits), some (vr V (40 + t)), some (vi (k : Int)), none] [] := by
    intro d
    induction d with
    | zero =>
      intro k ν hk hRk hv
      obtain rfl : k = 32 := by omega
      have e7 := hRk.1.2.1
      rw [cstR_ne m t g bits (by decide)] at e7
      refine g_iload hX dX6_cast_58 rfl ?_
      refine g_bipush hX dX6_cast_60 rfl ?_
      refine g_icmp_ge (tgt := 116) hX dX6_cast_62 (by decide) ⟨by omega, by omega⟩ ⟨by omega, by omega⟩ (fun _ => ?_) (fun hc => absurd hc (by omega))
      refine g_aload_n hX dX6_cast_116 rfl ?_
      refine g_dup hX dX6_cast_117 rfl ?_
      refine gf_X6_117 hX dX6_cast_118 ?_
      refine g_iconst hX dX6_cast_121 ?_
      refine g_iadd hX dX6_cast_122 ?_
      refine pf_X6_117 hX dX6_cast_123 ?_
      refine g_aload hX dX6_cast_126 rfl ?_
      refine gf_X6_96 hX dX6_cast_128 (by first | assumption | exact okd_part (by omega) | exact okd_bed (by omega) | exact okd_pile (by omega) | exact okd_dpile (by omega)) ?_
      simp (disch := omega) only [mset_ne, mset_same]
      refine g_iret hX hR dX6_cast_131 ⟨_, rfl, ?_, ?_, by rw [vw_out (by omega), hv]⟩
      · rw [(hRk.2.2.1 t ht3).1, cstR_9 m t g bits h90]
      · rw [e7]
        exact R_sc hRk (by decide)
    | succ d ih =>
      intro k ν hk hRk hv
      have hX6 : ν 63 6 = (N : Int) := by rw [hRk.1.1, cstR_ne m t g bits (by decide)]; exact hmN
      have g0 : cstR m t g bits k 0 0 = m 0 0 := cstR_ne m t g bits (by decide) k
      refine g_iload hX dX6_cast_58 rfl ?_
      refine g_bipush hX dX6_cast_60 rfl ?_
      refine g_icmp_ge (tgt := 116) hX dX6_cast_62 (by decide) ⟨by omega, by omega⟩ ⟨by omega, by omega⟩ (fun hc => absurd hc (by omega)) (fun _ => ?_)
      refine g_aload_n hX dX6_cast_65 rfl ?_
      refine g_iload_n hX dX6_cast_66 rfl ?_
      refine g_iload hX dX6_cast_67 rfl ?_
      refine g_iadd hX dX6_cast_69 ?_
      refine g_v1R hX lk_X6_66 dX6_cast_70 (c0 := 6) ok63 ⟨_, rfl, rfl⟩ (c_partOf hI hX6 hN40 ⟨by omega, by omega⟩) (by first | decide | omega) (by decide) rfl (Nat.le_of_ble_eq_true rfl) (fun r μ' hp => ?_)
      obtain ⟨rfl, hm⟩ := hp
      rw [hm]
      clear hm μ'
      by_cases hb : bitZ bits k = true
      · have hk2 := hin k (by omega) hb
        rw [if_pos (by omega), show ((g : Int) + (k : Int)).toNat = g + k by omega]
        show G V E ν 73 _ (vr V (g + k) :: [])
        have hc9 := cstR_9 m t g bits h90 k
        have hcl := cntB_le bits k
        have e0 := xf0 hRk (i := g + k) (by rw [g0]; exact hk2) (by omega)
        rw [cstR_ne m t g bits (by decide)] at e0
        have e9 := hRk.1.2.2.2.1
        rw [cstR_ne m t g bits (by decide)] at e9
        have eb := hRk.2.2.1 t ht3
        refine st_astore_7_6 hX dX6_cast_73 (by first | exact ck_i _ | exact ck_r _ _ | exact ck_n | exact ck_0) ?_
        refine g_aload hX dX6_cast_75 rfl ?_
        refine g_ifnull hX dX6_cast_77 ?_
        refine g_iload_n hX dX6_cast_80 rfl ?_
        refine g_iload hX dX6_cast_81 rfl ?_
        refine g_s2I hX lk_X6_101 dX6_cast_83 (c_hasBit hI (by omega)) (by decide) (by decide) rfl (Nat.le_of_ble_eq_true rfl) (fun z μ' hp => ?_)
        obtain ⟨rfl, hm⟩ := hp
        rw [hm]
        clear hm μ'
        rw [if_pos hb]
        refine g_if_eq (tgt := 110) hX dX6_cast_86 (by decide) ⟨by omega, by omega⟩ (fun hc => absurd hc (by omega)) (fun _ => ?_)
        refine g_aload hX dX6_cast_89 rfl ?_
        refine g_iconst hX dX6_cast_91 ?_
        refine g_iload_n hX dX6_cast_92 rfl ?_
        refine g_v2V hX lk_X6_104 dX6_cast_93 (c0 := 4) (by first | assumption | exact okd_part (by omega) | exact okd_bed (by omega) | exact okd_pile (by omega) | exact okd_dpile (by omega)) ⟨_, rfl, rfl⟩ (c_isNow hI (okd_part (by omega))) (by first | decide | omega) (by decide) rfl (Nat.le_of_ble_eq_true rfl) (fun μ' hp => ?_)
        rw [hp]
        clear hp μ'
        refine g_aload hX dX6_cast_96 rfl ?_
        refine g_aload hX dX6_cast_98 rfl ?_
        refine gf_X6_108 hX dX6_cast_100 (by first | assumption | exact okd_part (by omega) | exact okd_bed (by omega) | exact okd_pile (by omega) | exact okd_dpile (by omega)) ?_
        refine g_aload_n hX dX6_cast_103 rfl ?_
        refine gf_X6_111 hX dX6_cast_104 ?_
        simp (disch := omega) only [mset_ne, mset_same]
        rw [e0, e9]
        refine g_v2V hX lk_X6_114 dX6_cast_107 (c0 := 0) (by first | assumption | exact okd_part (by omega) | exact okd_bed (by omega) | exact okd_pile (by omega) | exact okd_dpile (by omega)) ⟨_, rfl, rfl⟩ (c_btake (h := cntB bits k) hI (okd_bed ht3) (by rw [mset_ne (Or.inl (by omega)), mset_ne (Or.inl (by omega)), eb.1, hc9]) (by omega)) (by first | decide | omega) (by decide) rfl (Nat.le_of_ble_eq_true rfl) (fun μ' hp => ?_)
        rw [hp]
        clear hp μ'
        refine st_iinc_7_5 hX dX6_cast_110 (by first | exact ck_i _ | exact ck_r _ _ | exact ck_n | exact ck_0) ?_
        refine g_goto (tgt := 58) hX dX6_cast_113 (by decide) ?_
        refine fg_7_6 ?_
        refine ih (k + 1) _ (by omega) ?_ ?_
        · have := R_addB (q := g + k) hRk ht3 hc9 (by omega) (fun b' hb' => by
            by_cases e : b' = t
            · subst e; rw [hc9]; omega
            · rw [cstR_9o m t g bits e]; exact (hy b' hb').1.2) (by rw [g0]; exact hk2) (by omega)
          rw [cstR_ne m t g bits (by decide), cstR_ne m t g bits (by decide)] at this
          rw [mset_ne (k' := 40 + t) (j' := 1) (Or.inl (by omega)), mset_ne (k' := 40 + t) (j' := 1) (Or.inl (by omega))]
          show RelXM _ (if bitZ bits k = true then addB (cstR m t g bits k) t (g + k) else cstR m t g bits k)
          rw [if_pos hb]
          exact this
        · rw [vw_out (by omega), vw_out (by omega), vw_out (by omega), vw_out (by omega), vw_out (by omega), hv]
      · have hstep : RelXM ν (cstR m t g bits (k + 1)) := by
          show RelXM _ (if bitZ bits k = true then addB (cstR m t g bits k) t (g + k) else cstR m t g bits k)
          rw [if_neg hb]; exact hRk
        by_cases hr : g + k < N
        · rw [if_pos (by omega), show ((g : Int) + (k : Int)).toNat = g + k by omega]
          show G V E ν 73 _ (vr V (g + k) :: [])
          refine st_astore_7_6 hX dX6_cast_73 (by first | exact ck_i _ | exact ck_r _ _ | exact ck_n | exact ck_0) ?_
          refine g_aload hX dX6_cast_75 rfl ?_
          refine g_ifnull hX dX6_cast_77 ?_
          refine g_iload_n hX dX6_cast_80 rfl ?_
          refine g_iload hX dX6_cast_81 rfl ?_
          refine g_s2I hX lk_X6_101 dX6_cast_83 (c_hasBit hI (by omega)) (by decide) (by decide) rfl (Nat.le_of_ble_eq_true rfl) (fun z μ' hp => ?_)
          obtain ⟨rfl, hm⟩ := hp
          rw [hm]
          clear hm μ'
          rw [if_neg hb]
          refine g_if_eq (tgt := 110) hX dX6_cast_86 (by decide) ⟨by omega, by omega⟩ (fun _ => ?_) (fun hc => absurd hc (by omega))
          refine st_iinc_7_5 hX dX6_cast_110 (by first | exact ck_i _ | exact ck_r _ _ | exact ck_n | exact ck_0) ?_
          refine g_goto (tgt := 58) hX dX6_cast_113 (by decide) ?_
          refine fg_7_6 ?_
          exact ih (k + 1) _ (by omega) hstep hv
        · rw [if_neg (by omega)]
          show G V E ν 73 _ (Value.null :: [])
          refine st_astoreN_7_6 hX dX6_cast_73 (by first | exact ck_i _ | exact ck_r _ _ | exact ck_n | exact ck_0) ?_
          refine g_aloadN hX dX6_cast_75 rfl ?_
          refine g_ifnullN (tgt := 110) hX dX6_cast_77 (by decide) ?_
          refine st_iinc_7_5 hX dX6_cast_110 (by first | exact ck_i _ | exact ck_r _ _ | exact ck_n | exact ck_0) ?_
          refine g_goto (tgt := 58) hX dX6_cast_113 (by decide) ?_
          refine fg_7_6 ?_
          exact ih (k + 1) _ (by omega) hstep hv
  refine g_iconst hX dX6_cast_55 ?_
  refine st_istore_7_5 hX dX6_cast_56 (by first | exact ck_i _ | exact ck_r _ _ | exact ck_n | exact ck_0) ?_
  exact loop 32 0 μ (by omega) hR0 rfl
