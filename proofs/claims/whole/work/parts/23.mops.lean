/-! the reference's calls: load, go, lorry, told, at, bed, count -/
theorem heavyK_s (m : Mem) (k : Nat) : heavyK m (k + 1) = heavyK m k + m 3 (m 15 k).toNat := rfl
set_option maxHeartbeats 4000000 in
theorem m_load {lnch : Launch} {V : VX} (hI : InjV V) {μ : Mem} {c : Nat} {t : Int} (hM : IM c (vw μ)) (ht : in32 t) : Ct lnch yX7_load cX7_load 3 (some .int) 3 V [vr V 76, vi t] μ (pI (MP μ (spLoad (vw μ) t))) := by
  refine Ct_of (by decide) hI (Nat.le_of_ble_eq_true rfl) (fun E hE hX hR => ?_)
  have hX : OkX V E RX7 cX7_load 3 3 := hX
  show G V E μ 0 [some (vr V 76), some (vi t), none] []
  obtain ⟨N, hN40, hN, hmN⟩ := vw_n hM
  unfold spLoad at hR
  refine g_iload_n hX dX7_load_0 rfl ?_
  refine g_s1I hX lk_X7_148 dX7_load_1 (c_isStack hI ht) (by decide) (by decide) rfl (Nat.le_of_ble_eq_true rfl) (fun z μ' hp => ?_)
  obtain ⟨rfl, hm⟩ := hp
  rw [hm]
  clear hm μ'
  by_cases h2 : 0 ≤ t ∧ t < 5
  rotate_left
  · rw [if_neg h2]
    rw [if_neg h2] at hR
    refine g_if_ne (tgt := 9) hX dX7_load_4 (by decide) ⟨by omega, by omega⟩ (fun hc => absurd hc (by omega)) (fun _ => ?_)
    refine g_iconst hX dX7_load_7 ?_
    refine g_iret hX hR dX7_load_8 ⟨_, rfl, rfl, rfl, KpX.rf⟩
  rw [if_pos h2]
  rw [if_pos h2] at hR
  obtain ⟨s, rfl⟩ : ∃ s : Nat, t = (s : Int) := ⟨t.toNat, by omega⟩
  rw [show ((s : Int)).toNat = s from rfl] at *
  have hys := (hM.2.2.2.1.1 s (by omega)).1
  have hsi := SI_of hM (s := s) (by omega) hmN
  obtain ⟨hl1, hl2, hl3, hl4, hl5⟩ := hM.2.2.2.2
  have hlr := lsum_rng hM (vw μ 0 17).toNat (by omega)
  have es : vw μ 13 s = μ 89 s := rfl
  have e17 : vw μ 0 17 = μ 76 17 := rfl
  obtain ⟨h, hh⟩ : ∃ h : Nat, μ 89 s = (h : Int) := ⟨(μ 89 s).toNat, by omega⟩
  obtain ⟨g, hg⟩ : ∃ g : Nat, μ 76 17 = (g : Int) := ⟨(μ 76 17).toNat, by omega⟩
  have hgt : (vw μ 0 17).toNat = g := by omega
  refine g_if_ne (tgt := 9) hX dX7_load_4 (by decide) ⟨by omega, by omega⟩ (fun _ => ?_) (fun hc => absurd hc (by omega))
  refine g_aload_n hX dX7_load_9 rfl ?_
  refine gf_X7_51 hX dX7_load_10 ?_
  refine g_iload_n hX dX7_load_13 rfl ?_
  refine g_ialdN hX dX7_load_14 (N := 5) rfl rfl (by omega) (by decide) ?_
  refine g_if_ne (tgt := 21) hX dX7_load_15 (by decide) ⟨by omega, by omega⟩ (fun h1 => ?_) (fun h1 => ?_)
  rotate_left
  · rw [if_pos (by omega)] at hR
    refine g_bipush hX dX7_load_18 rfl ?_
    refine g_iret hX hR dX7_load_20 ⟨_, rfl, rfl, rfl, KpX.rf⟩
  rw [if_neg (by omega)] at hR
  refine g_aload_n hX dX7_load_21 rfl ?_
  refine gf_X7_185 hX dX7_load_22 ?_
  refine g_iconst hX dX7_load_25 ?_
  refine g_icmp_ne (tgt := 32) hX dX7_load_26 (by decide) ⟨by omega, by omega⟩ ⟨by omega, by omega⟩ (fun h4 => ?_) (fun h4 => ?_)
  rotate_left
  · rw [if_pos (by omega)] at hR
    refine g_bipush hX dX7_load_29 rfl ?_
    refine g_iret hX hR dX7_load_31 ⟨_, rfl, rfl, rfl, KpX.rf⟩
  rw [if_neg (by omega)] at hR
  have htp := top_in hsi (by omega)
  have htp2 := htp.2
  have etop : μ 90 (4 * s + (h - 1)) = (topM (vw μ) s : Int) := by
    rw [htp.1, show (vw μ 13 s).toNat = h by omega]
    rfl
  have hw := (IM_p hM (i := topM (vw μ) s) (by omega)).2.2.1
  refine g_aload_n hX dX7_load_32 rfl ?_
  refine gf_X7_54 hX dX7_load_33 ?_
  refine g_iconst hX dX7_load_36 ?_
  refine g_iload_n hX dX7_load_37 rfl ?_
  refine g_imul hX dX7_load_38 ?_
  refine g_aload_n hX dX7_load_39 rfl ?_
  refine gf_X7_51 hX dX7_load_40 ?_
  refine g_iload_n hX dX7_load_43 rfl ?_
  refine g_ialdN hX dX7_load_44 (N := 5) rfl rfl (by omega) (by decide) ?_
  rw [hh]
  refine g_iadd hX dX7_load_45 ?_
  refine g_iconst hX dX7_load_46 ?_
  refine g_isub hX dX7_load_47 ?_
  refine g_ialdN (i := (4 * s + (h - 1))) hX dX7_load_48 (N := 20) rfl (by omega) (by omega) (by decide) ?_
  rw [etop]
  refine st_istore_n_3_2 hX dX7_load_49 (by first | exact ck_i _ | exact ck_r _ _ | exact ck_n | exact ck_0) ?_
  refine g_aload_n hX dX7_load_50 rfl ?_
  refine gf_X7_57 hX dX7_load_51 ?_
  refine g_aload_n hX dX7_load_54 rfl ?_
  refine gf_X7_185 hX dX7_load_55 ?_
  rw [hg]
  refine g_iload_n hX dX7_load_58 rfl ?_
  refine g_iastN hX dX7_load_59 (N := 4) rfl rfl (by omega) (by decide) ?_
  refine g_aload_n hX dX7_load_60 rfl ?_
  refine g_dup hX dX7_load_61 rfl ?_
  refine gf_X7_185 hX dX7_load_62 ?_
  simp (disch := omega) only [mset_ne, mset_same]; rw [hg]
  refine g_iconst hX dX7_load_65 ?_
  refine g_iadd hX dX7_load_66 ?_
  refine pf_X7_185 hX dX7_load_67 ?_
  refine g_aload_n hX dX7_load_70 rfl ?_
  have ev : vw (mset (mset μ 91 g (topM (vw μ) s : Int)) 76 17 ((g : Int) + 1)) = ltkM (vw μ) g (topM (vw μ) s) := by
    simp (disch := omega) only [vw_in]
    rfl
  have hls : ∀ k, k < g + 1 → 0 ≤ (mset (mset μ 91 g (topM (vw μ) s : Int)) 76 17 ((g : Int) + 1)) 91 k ∧ (mset (mset μ 91 g (topM (vw μ) s : Int)) 76 17 ((g : Int) + 1)) 91 k < (N : Int) := fun k hk => by
    rw [mset_ne (Or.inl (by decide))]
    by_cases hkg : k = g
    · subst hkg; rw [mset_same]; omega
    · rw [mset_ne (Or.inr hkg)]
      have : 0 ≤ μ 91 k ∧ μ 91 k < vw μ 0 0 ∧ _ := hl2 k (by omega)
      omega
  have e3 : ∀ k : Nat, k < g → ltkM (vw μ) g (topM (vw μ) s : Int) 15 k = vw μ 15 k ∧ ltkM (vw μ) g (topM (vw μ) s : Int) 3 (vw μ 15 k).toNat = vw μ 3 (vw μ 15 k).toNat := fun k hk => by
    unfold ltkM
    simp (disch := omega) only [mset_ne, and_self]
  have e15 : ltkM (vw μ) g (topM (vw μ) s : Int) 15 g = (topM (vw μ) s : Int) := by unfold ltkM; rw [mset_ne (Or.inl (by omega)), mset_same]
  have e33 : ltkM (vw μ) g (topM (vw μ) s : Int) 3 (topM (vw μ) s) = vw μ 3 (topM (vw μ) s) := by unfold ltkM; simp (disch := omega) only [mset_ne]
  have ehv : heavyK (ltkM (vw μ) g (topM (vw μ) s)) (g + 1) = heavyK (vw μ) g + vw μ 3 (topM (vw μ) s) := by
    show heavyK _ g + _ = _
    rw [heavyK_cg e3, e15, show ((topM (vw μ) s : Nat) : Int).toNat = topM (vw μ) s from rfl, e33]
  have efr : frontK (ltkM (vw μ) g (topM (vw μ) s)) (g + 1) = frontK (vw μ) g + vw μ 3 (topM (vw μ) s) * (8 - 2 * (g : Int)) := by
    show frontK _ g + _ = _
    rw [frontK_cg e3, e15, show ((topM (vw μ) s : Nat) : Int).toNat = topM (vw μ) s from rfl, e33]
  have ere : rearK (ltkM (vw μ) g (topM (vw μ) s)) (g + 1) = rearK (vw μ) g + vw μ 3 (topM (vw μ) s) * (2 * (g : Int) + 1) := by
    show rearK _ g + _ = _
    rw [rearK_cg e3, e15, show ((topM (vw μ) s : Nat) : Int).toNat = topM (vw μ) s from rfl, e33]
  rw [hgt, e17, hg] at hR
  rw [hgt] at hlr hl3 hl4 hl5
  have hb1 : 0 ≤ vw μ 3 (topM (vw μ) s) * (8 - 2 * (g : Int)) ∧ vw μ 3 (topM (vw μ) s) * (8 - 2 * (g : Int)) ≤ 100 * 8 := ⟨Int.mul_nonneg (by omega) (by omega), Int.mul_le_mul (by omega) (by omega) (by omega) (by decide)⟩
  have hb2 : 0 ≤ vw μ 3 (topM (vw μ) s) * (2 * (g : Int) + 1) ∧ vw μ 3 (topM (vw μ) s) * (2 * (g : Int) + 1) ≤ 100 * 9 := ⟨Int.mul_nonneg (by omega) (by omega), Int.mul_le_mul (by omega) (by omega) (by omega) (by decide)⟩
  have bad : ¬ (heavyK (vw μ) g + vw μ 3 (topM (vw μ) s) ≤ 120 ∧ frontK (vw μ) g + vw μ 3 (topM (vw μ) s) * (8 - 2 * (g : Int)) ≤ 720 ∧ rearK (vw μ) g + vw μ 3 (topM (vw μ) s) * (2 * (g : Int) + 1) ≤ 720) →
      G V E (mset (mset μ 91 g (topM (vw μ) s : Int)) 76 17 ((g : Int) + 1)) 99 [some (vr V 76), some (vi (s : Int)), some (vi (topM (vw μ) s : Int))] [] := fun hb => by
    rw [if_neg hb] at hR
    refine g_aload_n hX dX7_load_99 rfl ?_
    refine g_dup hX dX7_load_100 rfl ?_
    refine gf_X7_185 hX dX7_load_101 ?_
    simp (disch := omega) only [mset_ne, mset_same]
    refine g_iconst hX dX7_load_104 ?_
    refine g_isub hX dX7_load_105 ?_
    refine pf_X7_185 hX dX7_load_106 ?_
    refine g_bipush hX dX7_load_109 rfl ?_
    refine g_iret hX hR dX7_load_111 ⟨_, rfl, rfl, ?_, ?_⟩
    · rw [mset_over, show (g : Int) + 1 - 1 = (g : Int) by omega, mset_id (by rw [mset_ne (Or.inl (by decide))]; exact hg), vw_in (by omega)]
    · repeat first | exact KpX.rf | refine KpX_m ?_ (by omega)
  refine g_v0I hX lk_X7_188 dX7_load_71 (c0 := 7) ok76 ⟨_, rfl, rfl⟩ (c_heavy (h := g + 1) (n := N) hI (by rw [mset_same]; rfl) (by omega) hN40 hls) (by first | decide | omega) (by decide) rfl (Nat.le_of_ble_eq_true rfl) (fun z μ' hp => ?_)
  obtain ⟨rfl, hm⟩ := hp
  rw [hm]
  clear hm μ'
  rw [ev, ehv]
  refine g_bipush hX dX7_load_74 rfl ?_
  refine g_icmp_gt (tgt := 99) hX dX7_load_76 (by decide) ⟨by omega, by omega⟩ ⟨by omega, by omega⟩ (fun c1 => ?_) (fun c1 => ?_)
  · exact bad (by omega)
  refine g_aload_n hX dX7_load_79 rfl ?_
  refine g_v0I hX lk_X7_191 dX7_load_80 (c0 := 7) ok76 ⟨_, rfl, rfl⟩ (c_front (h := g + 1) (n := N) hI (by rw [mset_same]; rfl) (by omega) hN40 hls) (by first | decide | omega) (by decide) rfl (Nat.le_of_ble_eq_true rfl) (fun z μ' hp => ?_)
  obtain ⟨rfl, hm⟩ := hp
  rw [hm]
  clear hm μ'
  rw [ev, efr]
  refine g_sipush hX dX7_load_83 rfl ?_
  refine g_icmp_gt (tgt := 99) hX dX7_load_86 (by decide) ⟨by omega, by omega⟩ ⟨by omega, by omega⟩ (fun c2 => ?_) (fun c2 => ?_)
  · exact bad (by omega)
  refine g_aload_n hX dX7_load_89 rfl ?_
  refine g_v0I hX lk_X7_194 dX7_load_90 (c0 := 7) ok76 ⟨_, rfl, rfl⟩ (c_rear (h := g + 1) (n := N) hI (by rw [mset_same]; rfl) (by omega) hN40 hls) (by first | decide | omega) (by decide) rfl (Nat.le_of_ble_eq_true rfl) (fun z μ' hp => ?_)
  obtain ⟨rfl, hm⟩ := hp
  rw [hm]
  clear hm μ'
  rw [ev, ere]
  refine g_sipush hX dX7_load_93 rfl ?_
  refine g_icmp_le (tgt := 112) hX dX7_load_96 (by decide) ⟨by omega, by omega⟩ ⟨by omega, by omega⟩ (fun c3 => ?_) (fun c3 => ?_)
  rotate_left
  · exact bad (by omega)
  rw [if_pos (by omega)] at hR
  refine g_aload_n hX dX7_load_112 rfl ?_
  refine gf_X7_51 hX dX7_load_113 ?_
  refine g_iload_n hX dX7_load_116 rfl ?_
  refine g_dup2 hX dX7_load_117 rfl rfl ?_
  refine g_ialdN hX dX7_load_118 (N := 5) rfl rfl (by omega) (by decide) ?_
  simp (disch := omega) only [mset_ne, mset_same]
  rw [hh]
  refine g_iconst hX dX7_load_119 ?_
  refine g_isub hX dX7_load_120 ?_
  refine g_iastN hX dX7_load_121 (N := 5) rfl rfl (by omega) (by decide) ?_
  refine g_aload_n hX dX7_load_122 rfl ?_
  refine gf_X7_22 hX dX7_load_123 ?_
  refine g_iload_n hX dX7_load_126 rfl ?_
  refine g_bipush hX dX7_load_127 rfl ?_
  refine g_iastN hX dX7_load_129 (N := 40) rfl rfl (by omega) (by decide) ?_
  refine g_aload_n hX dX7_load_130 rfl ?_
  refine gf_X7_25 hX dX7_load_131 ?_
  refine g_iload_n hX dX7_load_134 rfl ?_
  refine g_bipush hX dX7_load_135 rfl ?_
  refine g_iastN hX dX7_load_137 (N := 40) rfl rfl (by omega) (by decide) ?_
  refine g_aload_n hX dX7_load_138 rfl ?_
  refine g_iload_n hX dX7_load_139 rfl ?_
  have ev2 : vw (mset (mset (mset (mset (mset μ 91 g (topM (vw μ) s : Int)) 76 17 ((g : Int) + 1)) 89 s ((h : Int) - 1)) 81 (topM (vw μ) s) 6) 82 (topM (vw μ) s) (-4)) = ldM (vw μ) s := by
    simp (disch := omega) only [vw_in]
    unfold ldM ltkM
    rw [hgt, es, hh]
  have s2 : SI (ldM (vw μ) s) s N := by
    obtain ⟨a1, a2, a3, a4, a5⟩ := hsi
    unfold ldM ltkM
    refine ⟨by simp (disch := omega) only [mset_ne]; exact a1, a2, by simp (disch := omega) only [mset_ne, mset_same]; omega, fun k hk => ?_, fun i hi => by simp (disch := omega) only [mset_ne]; exact a5 i hi⟩
    simp (disch := omega) only [mset_ne, mset_same] at hk ⊢
    exact a4 k (by omega)
  rw [← ev2] at s2
  refine g_v1V hX lk_X7_155 dX7_load_140 (c0 := 7) ok76 ⟨_, rfl, rfl⟩ (c_clears hI (by omega) s2) (by first | decide | omega) (by decide) rfl (Nat.le_of_ble_eq_true rfl) (fun μ' hp => ?_)
  obtain ⟨hp1, hp2⟩ := hp
  refine g_aload_n hX dX7_load_143 rfl ?_
  refine gf_X7_185 hX dX7_load_144 ?_
  refine g_iconst hX dX7_load_147 ?_
  refine g_isub hX dX7_load_148 ?_
  have e17' : μ' 76 17 = (g : Int) + 1 := by
    have : vw μ' 0 17 = (g : Int) + 1 := by
      rw [hp1, ev2]
      have hcl : ∀ (f : Nat) (x : Mem), clrM s f x 0 17 = x 0 17 := by
        intro f
        induction f with
        | zero => intro x; rfl
        | succ f ih =>
          intro x
          unfold clrM
          split
          · rw [ih]; unfold popM; simp (disch := omega) only [mset_ne]
          · rfl
      rw [hcl]
      unfold ldM ltkM
      simp (disch := omega) only [mset_ne, mset_same]
      rw [hgt]
    exact this
  refine g_iret hX hR dX7_load_149 ⟨_, rfl, ?_, ?_, ?_⟩
  · rw [e17']; omega
  · rw [hp1, ev2]
  · refine KpX.tr ?_ hp2
    repeat first | exact KpX.rf | refine KpX_m ?_ (by omega)
set_option maxHeartbeats 4000000 in
theorem m_go {lnch : Launch} {V : VX} (hI : InjV V) {μ : Mem} {c : Nat} (hM : IM c (vw μ)) : Ct lnch yX7_go cX7_go 3 (some .int) 1 V [vr V 76] μ (pI (MP μ (spGo (vw μ)))) := by
  refine Ct_of (by decide) hI (Nat.le_of_ble_eq_true rfl) (fun E hE hX hR => ?_)
  have hX : OkX V E RX7 cX7_go 3 1 := hX
  show G V E μ 0 [some (vr V 76), none, none] []
  obtain ⟨N, hN40, hN, hmN⟩ := vw_n hM
  unfold spGo at hR
  obtain ⟨hl1, hl2, -⟩ := hM.2.2.2.2
  have e17 : vw μ 0 17 = μ 76 17 := rfl
  obtain ⟨h, hh⟩ : ∃ h : Nat, μ 76 17 = (h : Int) := ⟨(μ 76 17).toNat, by omega⟩
  refine g_aload_n hX dX7_go_0 rfl ?_
  refine gf_X7_185 hX dX7_go_1 ?_
  refine g_if_ne (tgt := 10) hX dX7_go_4 (by decide) ⟨by omega, by omega⟩ (fun h1 => ?_) (fun h1 => ?_)
  rotate_left
  · rw [if_pos (by omega)] at hR
    refine g_bipush hX dX7_go_7 rfl ?_
    refine g_iret hX hR dX7_go_9 ⟨_, rfl, rfl, rfl, KpX.rf⟩
  rw [if_neg (by omega)] at hR
  have loop : ∀ (d k : Nat) (ν : Mem), k + d = h → vw ν = goK (vw μ) k → KpX μ ν → G V E ν 17 [some (vr V 76), some (vi (μ 76 17)), some (vi (k : Int))] [] := by
    intro d
    induction d with
    | zero =>
      intro k ν hk hv hkp
      have e19 : ν 76 19 = vw μ 0 19 := by
        have : vw ν 0 19 = vw μ 0 19 := by rw [hv]; exact goK_ne _ (by decide) (by decide) k
        exact this
      refine g_iload_n hX dX7_go_17 rfl ?_
      refine g_iload_n hX dX7_go_18 rfl ?_
      refine g_icmp_ge (tgt := 55) hX dX7_go_19 (by decide) ⟨by omega, by omega⟩ ⟨by omega, by omega⟩ (fun _ => ?_) (fun hc => absurd hc (by omega))
      refine g_aload_n hX dX7_go_55 rfl ?_
      refine g_iconst hX dX7_go_56 ?_
      refine pf_X7_185 hX dX7_go_57 ?_
      refine g_aload_n hX dX7_go_60 rfl ?_
      refine g_dup hX dX7_go_61 rfl ?_
      refine gf_X7_197 hX dX7_go_62 ?_
      simp (disch := omega) only [mset_ne, mset_same]
      rw [e19]
      refine g_iconst hX dX7_go_65 ?_
      refine g_iadd hX dX7_go_66 ?_
      refine pf_X7_197 hX dX7_go_67 ?_
      refine g_iload_n hX dX7_go_70 rfl ?_
      refine g_iret hX hR dX7_go_71 ⟨_, rfl, rfl, ?_, KpX_m (KpX_m hkp (by omega)) (by omega)⟩
      rw [vw_in (by omega), vw_in (by omega), hv, show (vw μ 0 17).toNat = k by omega]
    | succ d ih =>
      intro k ν hk hv hkp
      have hlk := hl2 k (by omega)
      have e15 : ν 91 k = vw μ 15 k := by
        have : vw ν 15 k = vw μ 15 k := by rw [hv]; exact goK_ne _ (by decide) (by decide) k
        exact this
      have e19 : ν 76 19 = vw μ 0 19 := by
        have : vw ν 0 19 = vw μ 0 19 := by rw [hv]; exact goK_ne _ (by decide) (by decide) k
        exact this
      obtain ⟨q, hq⟩ : ∃ q : Nat, vw μ 15 k = (q : Int) := ⟨(vw μ 15 k).toNat, by omega⟩
      refine g_iload_n hX dX7_go_17 rfl ?_
      refine g_iload_n hX dX7_go_18 rfl ?_
      refine g_icmp_ge (tgt := 55) hX dX7_go_19 (by decide) ⟨by omega, by omega⟩ ⟨by omega, by omega⟩ (fun hc => absurd hc (by omega)) (fun _ => ?_)
      refine g_aload_n hX dX7_go_22 rfl ?_
      refine gf_X7_22 hX dX7_go_23 ?_
      refine g_aload_n hX dX7_go_26 rfl ?_
      refine gf_X7_57 hX dX7_go_27 ?_
      refine g_iload_n hX dX7_go_30 rfl ?_
      refine g_ialdN hX dX7_go_31 (N := 4) rfl rfl (by omega) (by decide) ?_
      rw [e15, hq]
      refine g_iconst hX dX7_go_32 ?_
      refine g_iastN hX dX7_go_33 (N := 40) rfl rfl (by omega) (by decide) ?_
      refine g_aload_n hX dX7_go_34 rfl ?_
      refine gf_X7_25 hX dX7_go_35 ?_
      refine g_aload_n hX dX7_go_38 rfl ?_
      refine gf_X7_57 hX dX7_go_39 ?_
      refine g_iload_n hX dX7_go_42 rfl ?_
      refine g_ialdN hX dX7_go_43 (N := 4) rfl rfl (by omega) (by decide) ?_
      simp (disch := omega) only [mset_ne, mset_same]
      rw [e15, hq]
      refine g_aload_n hX dX7_go_44 rfl ?_
      refine gf_X7_197 hX dX7_go_45 ?_
      simp (disch := omega) only [mset_ne, mset_same]
      rw [e19]
      refine g_iastN hX dX7_go_48 (N := 40) rfl rfl (by omega) (by decide) ?_
      refine st_iinc_3_2 hX dX7_go_49 (by first | exact ck_i _ | exact ck_r _ _ | exact ck_n | exact ck_0) ?_
      refine g_goto (tgt := 17) hX dX7_go_52 (by decide) ?_
      refine ih (k + 1) _ (by omega) ?_ (KpX_m (KpX_m hkp (by omega)) (by omega))
      rw [vw_in (by omega), vw_in (by omega), hv]
      show _ = mset (mset (goK (vw μ) k) 5 (vw μ 15 k).toNat 4) 6 (vw μ 15 k).toNat (vw μ 0 19)
      rw [hq]
      rfl
  refine g_aload_n hX dX7_go_10 rfl ?_
  refine gf_X7_185 hX dX7_go_11 ?_
  refine st_istore_n_3_1 hX dX7_go_14 (by first | exact ck_i _ | exact ck_r _ _ | exact ck_n | exact ck_0) ?_
  refine g_iconst hX dX7_go_15 ?_
  refine st_istore_n_3_2 hX dX7_go_16 (by first | exact ck_i _ | exact ck_r _ _ | exact ck_n | exact ck_0) ?_
  exact loop h 0 μ (by omega) rfl KpX.rf
set_option maxHeartbeats 4000000 in
theorem c_mright {lnch : Launch} {V : VX} (hI : InjV V) {μ : Mem} {c : Nat} (hM : IM c (vw μ)) : Ct lnch yX7_isRight cX7_isRight 3 (some .boolean) 1 V [vr V 76] μ (pI (fun z μ' => z = rightZ (vw μ) (vw μ 0 17).toNat ∧ μ' = μ)) := by
  refine Ct_of (by decide) hI (Nat.le_of_ble_eq_true rfl) (fun E hE hX hR => ?_)
  have hX : OkX V E RX7 cX7_isRight 3 1 := hX
  show G V E μ 0 [some (vr V 76), none, none] []
  obtain ⟨N, hN40, hN, hmN⟩ := vw_n hM
  obtain ⟨hl1, hl2, -⟩ := hM.2.2.2.2
  have e17 : vw μ 0 17 = μ 76 17 := rfl
  obtain ⟨h, hh⟩ : ∃ h : Nat, μ 76 17 = (h : Int) := ⟨(μ 76 17).toNat, by omega⟩
  have ht : (vw μ 0 17).toNat = h := by omega
  rw [ht] at hR
  have need : ∀ k : Nat, k < h → ∃ q : Nat, q < N ∧ μ 91 k = (q : Int) ∧ vw μ 4 (vw μ 15 k).toNat = μ 80 q ∧ 0 ≤ μ 80 q ∧ μ 80 q ≤ 1000 := fun k hk => by
    have h1 := hl2 k (by omega)
    have e15 : μ 91 k = vw μ 15 k := rfl
    have := IM_p hM (i := (vw μ 15 k).toNat) (by omega)
    exact ⟨(vw μ 15 k).toNat, by omega, by omega, rfl, this.2.2.2.1⟩
  have loop : ∀ (p : Nat) (z : Int), p < h → ((z = 1 ∧ ∀ k, p ≤ k → k + 1 < h → vw μ 4 (vw μ 15 (k + 1)).toNat ≤ vw μ 4 (vw μ 15 k).toNat) ∨ (z = 0 ∧ rightZ (vw μ) h = 0)) → G V E μ 9 [some (vr V 76), some (vi z), some (vi (p : Int))] [] := by
    intro p
    induction p with
    | zero =>
      intro z hp hz
      refine g_iload_n hX dX7_isRight_9 rfl ?_
      refine g_if_le (tgt := 56) hX dX7_isRight_10 (by decide) ⟨by omega, by omega⟩ (fun _ => ?_) (fun hc => absurd hc (by omega))
      refine g_iload_n hX dX7_isRight_56 rfl ?_
      rcases hz with ⟨rfl, hz⟩ | ⟨rfl, hz⟩
      · refine g_zret hX hR dX7_isRight_57 (Or.inr rfl) ⟨_, rfl, (rightZ_1 (vw μ) h (fun k hk => hz k (by omega) hk)).symm, rfl⟩
      · refine g_zret hX hR dX7_isRight_57 (Or.inl rfl) ⟨_, rfl, hz.symm, rfl⟩
    | succ p ih =>
      intro z hp hz
      obtain ⟨q1, hq1, a1, n1, r1⟩ := need p (by omega)
      obtain ⟨q2, hq2, a2, n2, r2⟩ := need (p + 1) (by omega)
      have next : ∀ y : Int, ((y = 1 ∧ ∀ k, p ≤ k → k + 1 < h → vw μ 4 (vw μ 15 (k + 1)).toNat ≤ vw μ 4 (vw μ 15 k).toNat) ∨ (y = 0 ∧ rightZ (vw μ) h = 0)) → G V E μ 49 [some (vr V 76), some (vi z), some (vi ((p + 1 : Nat) : Int))] [vi y] := fun y hy => by
        refine st_istore_n_3_1 hX dX7_isRight_49 (by first | exact ck_i _ | exact ck_r _ _ | exact ck_n | exact ck_0) ?_
        refine st_iinc_3_2 hX dX7_isRight_50 (by first | exact ck_i _ | exact ck_r _ _ | exact ck_n | exact ck_0) ?_
        refine g_goto (tgt := 9) hX dX7_isRight_53 (by decide) ?_
        rw [show ((p + 1 : Nat) : Int) + (-1) = (p : Int) by omega]
        exact ih y (by omega) hy
      refine g_iload_n hX dX7_isRight_9 rfl ?_
      refine g_if_le (tgt := 56) hX dX7_isRight_10 (by decide) ⟨by omega, by omega⟩ (fun hc => absurd hc (by omega)) (fun _ => ?_)
      refine g_iload_n hX dX7_isRight_13 rfl ?_
      rcases hz with ⟨rfl, hz⟩ | ⟨rfl, hz⟩
      · refine g_if_eq (tgt := 48) hX dX7_isRight_14 (by decide) ⟨by omega, by omega⟩ (fun hc => absurd hc (by omega)) (fun _ => ?_)
        refine g_aload_n hX dX7_isRight_17 rfl ?_
        refine gf_X7_19 hX dX7_isRight_18 ?_
        refine g_aload_n hX dX7_isRight_21 rfl ?_
        refine gf_X7_57 hX dX7_isRight_22 ?_
        refine g_iload_n hX dX7_isRight_25 rfl ?_
        refine g_ialdN hX dX7_isRight_26 (N := 4) rfl rfl (by omega) (by decide) ?_
        rw [a2]
        refine g_ialdN hX dX7_isRight_27 (N := 40) rfl rfl (by omega) (by decide) ?_
        refine g_aload_n hX dX7_isRight_28 rfl ?_
        refine gf_X7_19 hX dX7_isRight_29 ?_
        refine g_aload_n hX dX7_isRight_32 rfl ?_
        refine gf_X7_57 hX dX7_isRight_33 ?_
        refine g_iload_n hX dX7_isRight_36 rfl ?_
        refine g_iconst hX dX7_isRight_37 ?_
        refine g_isub hX dX7_isRight_38 ?_
        rw [show ((p + 1 : Nat) : Int) - 1 = (p : Int) by omega]
        refine g_ialdN hX dX7_isRight_39 (N := 4) rfl rfl (by omega) (by decide) ?_
        rw [a1]
        refine g_ialdN hX dX7_isRight_40 (N := 40) rfl rfl (by omega) (by decide) ?_
        refine g_icmp_gt (tgt := 48) hX dX7_isRight_41 (by decide) ⟨by omega, by omega⟩ ⟨by omega, by omega⟩ (fun c1 => ?_) (fun c1 => ?_)
        · refine g_iconst hX dX7_isRight_48 ?_
          exact next 0 (Or.inr ⟨rfl, rightZ_0 (vw μ) h p (by omega) (by omega)⟩)
        · refine g_iconst hX dX7_isRight_44 ?_
          refine g_goto (tgt := 49) hX dX7_isRight_45 (by decide) ?_
          refine next 1 (Or.inl ⟨rfl, fun k h1 h2 => ?_⟩)
          by_cases hkp : k = p
          · subst hkp; omega
          · exact hz k (by omega) h2
      · refine g_if_eq (tgt := 48) hX dX7_isRight_14 (by decide) ⟨by omega, by omega⟩ (fun _ => ?_) (fun hc => absurd hc (by omega))
        refine g_iconst hX dX7_isRight_48 ?_
        exact next 0 (Or.inr ⟨rfl, hz⟩)
  by_cases h0 : h = 0
  · refine g_iconst hX dX7_isRight_0 ?_
    refine st_istore_n_3_1 hX dX7_isRight_1 (by first | exact ck_i _ | exact ck_r _ _ | exact ck_n | exact ck_0) ?_
    refine g_aload_n hX dX7_isRight_2 rfl ?_
    refine gf_X7_185 hX dX7_isRight_3 ?_
    refine g_iconst hX dX7_isRight_6 ?_
    refine g_isub hX dX7_isRight_7 ?_
    refine st_istore_n_3_2 hX dX7_isRight_8 (by first | exact ck_i _ | exact ck_r _ _ | exact ck_n | exact ck_0) ?_
    refine g_iload_n hX dX7_isRight_9 rfl ?_
    refine g_if_le (tgt := 56) hX dX7_isRight_10 (by decide) ⟨by omega, by omega⟩ (fun _ => ?_) (fun hc => absurd hc (by omega))
    refine g_iload_n hX dX7_isRight_56 rfl ?_
    refine g_zret hX hR dX7_isRight_57 (Or.inr rfl) ⟨_, rfl, by rw [h0]; rfl, rfl⟩
  · refine g_iconst hX dX7_isRight_0 ?_
    refine st_istore_n_3_1 hX dX7_isRight_1 (by first | exact ck_i _ | exact ck_r _ _ | exact ck_n | exact ck_0) ?_
    refine g_aload_n hX dX7_isRight_2 rfl ?_
    refine gf_X7_185 hX dX7_isRight_3 ?_
    refine g_iconst hX dX7_isRight_6 ?_
    refine g_isub hX dX7_isRight_7 ?_
    refine st_istore_n_3_2 hX dX7_isRight_8 (by first | exact ck_i _ | exact ck_r _ _ | exact ck_n | exact ck_0) ?_
    rw [hh, show (h : Int) - 1 = ((h - 1 : Nat) : Int) by omega]
    exact loop (h - 1) 1 (by omega) (Or.inl ⟨rfl, fun k h1 h2 => by omega⟩)
set_option maxHeartbeats 4000000 in
theorem m_lorry {lnch : Launch} {V : VX} (hI : InjV V) {μ : Mem} {c : Nat} {w : Int} (hM : IM c (vw μ)) (hw : in32 w) : Ct lnch yX7_lorry cX7_lorry 2 (some .int) 2 V [vr V 76, vi w] μ (pI (MP μ (spLorry (vw μ) w))) := by
  refine Ct_of (by decide) hI (Nat.le_of_ble_eq_true rfl) (fun E hE hX hR => ?_)
  have hX : OkX V E RX7 cX7_lorry 2 2 := hX
  show G V E μ 0 [some (vr V 76), some (vi w)] []
  unfold spLorry at hR
  obtain ⟨N, hN40, hN, hmN⟩ := vw_n hM
  obtain ⟨hw1, hw2⟩ := hw
  obtain ⟨hl1, hl2, -⟩ := hM.2.2.2.2
  have e17 : vw μ 0 17 = μ 76 17 := rfl
  obtain ⟨h, hh⟩ : ∃ h : Nat, μ 76 17 = (h : Int) := ⟨(μ 76 17).toNat, by omega⟩
  have ht : (vw μ 0 17).toNat = h := by omega
  have hls : ∀ k, k < h → 0 ≤ μ 91 k ∧ μ 91 k < (N : Int) := fun k hk => by
    have := hl2 k (by omega)
    exact ⟨this.1, by rw [← hmN]; exact this.2.1⟩
  refine g_iload_n hX dX7_lorry_0 rfl ?_
  have hcs : w = 0 ∨ w = 1 ∨ w = 2 ∨ w = 3 ∨ w = 4 ∨ (w < 0 ∨ 4 < w) := by omega
  rcases hcs with rfl | rfl | rfl | rfl | rfl | hcs
  · refine g_tin (tgt := 36) hX dX7_lorry_1 ⟨by decide, by decide⟩ (by decide) (by decide) rfl (by decide) ?_
    refine g_aload_n hX dX7_lorry_36 rfl ?_
    refine gf_X7_185 hX dX7_lorry_37 ?_
    refine g_iret hX hR dX7_lorry_40 ⟨_, rfl, rfl, rfl, KpX.rf⟩
  · refine g_tin (tgt := 41) hX dX7_lorry_1 ⟨by decide, by decide⟩ (by decide) (by decide) rfl (by decide) ?_
    refine g_aload_n hX dX7_lorry_41 rfl ?_
    refine g_v0I hX lk_X7_188 dX7_lorry_42 (c0 := 7) ok76 ⟨_, rfl, rfl⟩ (c_heavy hI hh (by omega) hN40 hls) (by first | decide | omega) (by decide) rfl (Nat.le_of_ble_eq_true rfl) (fun z μ' hp => ?_)
    obtain ⟨rfl, hm⟩ := hp
    rw [hm]
    clear hm μ'
    refine g_iret hX hR dX7_lorry_45 ⟨_, rfl, by rw [← ht]; rfl, rfl, KpX.rf⟩
  · refine g_tin (tgt := 46) hX dX7_lorry_1 ⟨by decide, by decide⟩ (by decide) (by decide) rfl (by decide) ?_
    refine g_aload_n hX dX7_lorry_46 rfl ?_
    refine g_v0I hX lk_X7_191 dX7_lorry_47 (c0 := 7) ok76 ⟨_, rfl, rfl⟩ (c_front hI hh (by omega) hN40 hls) (by first | decide | omega) (by decide) rfl (Nat.le_of_ble_eq_true rfl) (fun z μ' hp => ?_)
    obtain ⟨rfl, hm⟩ := hp
    rw [hm]
    clear hm μ'
    refine g_iret hX hR dX7_lorry_50 ⟨_, rfl, by rw [← ht]; rfl, rfl, KpX.rf⟩
  · refine g_tin (tgt := 51) hX dX7_lorry_1 ⟨by decide, by decide⟩ (by decide) (by decide) rfl (by decide) ?_
    refine g_aload_n hX dX7_lorry_51 rfl ?_
    refine g_v0I hX lk_X7_194 dX7_lorry_52 (c0 := 7) ok76 ⟨_, rfl, rfl⟩ (c_rear hI hh (by omega) hN40 hls) (by first | decide | omega) (by decide) rfl (Nat.le_of_ble_eq_true rfl) (fun z μ' hp => ?_)
    obtain ⟨rfl, hm⟩ := hp
    rw [hm]
    clear hm μ'
    refine g_iret hX hR dX7_lorry_55 ⟨_, rfl, by rw [← ht]; rfl, rfl, KpX.rf⟩
  · refine g_tin (tgt := 56) hX dX7_lorry_1 ⟨by decide, by decide⟩ (by decide) (by decide) rfl (by decide) ?_
    refine g_aload_n hX dX7_lorry_56 rfl ?_
    refine g_v0I hX lk_X7_200 dX7_lorry_57 (c0 := 7) ok76 ⟨_, rfl, rfl⟩ (c_mright hI hM) (by first | decide | omega) (by decide) rfl (Nat.le_of_ble_eq_true rfl) (fun z μ' hp => ?_)
    obtain ⟨rfl, hm⟩ := hp
    rw [hm]
    clear hm μ'
    rcases rightZ_01 (vw μ) (vw μ 0 17).toNat with h | h
    · rw [h]
      refine g_if_eq (tgt := 67) hX dX7_lorry_60 (by decide) ⟨by omega, by omega⟩ (fun _ => ?_) (fun hc => absurd hc (by omega))
      refine g_iconst hX dX7_lorry_67 ?_
      refine g_iret hX hR dX7_lorry_68 ⟨_, rfl, h.symm, rfl, KpX.rf⟩
    · rw [h]
      refine g_if_eq (tgt := 67) hX dX7_lorry_60 (by decide) ⟨by omega, by omega⟩ (fun hc => absurd hc (by omega)) (fun _ => ?_)
      refine g_iconst hX dX7_lorry_63 ?_
      refine g_goto (tgt := 68) hX dX7_lorry_64 (by decide) ?_
      refine g_iret hX hR dX7_lorry_68 ⟨_, rfl, h.symm, rfl, KpX.rf⟩
  · refine g_tout (tgt := 69) hX dX7_lorry_1 ⟨by omega, by omega⟩ (by omega) (by decide) ?_
    refine g_iconst hX dX7_lorry_69 ?_
    refine g_iret hX hR dX7_lorry_70 ⟨_, rfl, ?_, rfl, KpX.rf⟩
    show (-1 : Int) = if w = 0 then _ else _
    rw [if_neg (by omega), if_neg (by omega), if_neg (by omega), if_neg (by omega), if_neg (by omega)]
set_option maxHeartbeats 4000000 in
theorem m_told {lnch : Launch} {V : VX} (hI : InjV V) {μ : Mem} {c : Nat} {p w : Int} (hM : IM c (vw μ)) (hp : in32 p) (hw : in32 w) : Ct lnch yX7_told cX7_told 3 (some .int) 3 V [vr V 76, vi p, vi w] μ (pI (MP μ (spTold (vw μ) p w))) := by
  refine Ct_of (by decide) hI (Nat.le_of_ble_eq_true rfl) (fun E hE hX hR => ?_)
  have hX : OkX V E RX7 cX7_told 3 3 := hX
  show G V E μ 0 [some (vr V 76), some (vi p), some (vi w)] []
  obtain ⟨N, hN40, hN, hmN⟩ := vw_n hM
  unfold spTold at hR
  obtain ⟨hw1, hw2⟩ := hw
  have no : ¬ ((0 ≤ p ∧ p < vw μ 0 0) ∧ 0 ≤ w ∧ w ≤ 7) → G V E μ 20 [some (vr V 76), some (vi p), some (vi w)] [] := fun h => by
    rw [if_neg h] at hR
    refine g_iconst hX dX7_told_20 ?_
    refine g_iret hX hR dX7_told_21 ⟨_, rfl, rfl, rfl, KpX.rf⟩
  refine g_aload_n hX dX7_told_0 rfl ?_
  refine g_iload_n hX dX7_told_1 rfl ?_
  refine g_v1I hX lk_X7_114 dX7_told_2 (c0 := 7) ok76 ⟨_, rfl, rfl⟩ (c_isPart hI hN hN40 hp) (by first | decide | omega) (by decide) rfl (Nat.le_of_ble_eq_true rfl) (fun z μ' hp => ?_)
  obtain ⟨rfl, hm⟩ := hp
  rw [hm]
  clear hm μ'
  by_cases h1 : 0 ≤ p ∧ p < (N : Int)
  rotate_left
  · rw [if_neg h1]
    refine g_if_eq (tgt := 20) hX dX7_told_5 (by decide) ⟨by omega, by omega⟩ (fun _ => ?_) (fun hc => absurd hc (by omega))
    exact no (by omega)
  rw [if_pos h1]
  refine g_if_eq (tgt := 20) hX dX7_told_5 (by decide) ⟨by omega, by omega⟩ (fun hc => absurd hc (by omega)) (fun _ => ?_)
  refine g_iload_n hX dX7_told_8 rfl ?_
  refine g_i2l hX dX7_told_9 ⟨by omega, by omega⟩ ?_
  refine g_lconst hX dX7_told_10 (z := 0) rfl ?_
  refine g_ldc2 (z := 7) hX dX7_told_11 tw_625 ?_
  refine g_s3I hX lk_X7_96 dX7_told_14 (c_in hI ⟨by omega, by omega⟩ ⟨by decide, by decide⟩ ⟨by decide, by decide⟩) (by decide) (by decide) rfl (Nat.le_of_ble_eq_true rfl) (fun z μ' hp => ?_)
  obtain ⟨rfl, hm⟩ := hp
  rw [hm]
  clear hm μ'
  by_cases h2 : 0 ≤ w ∧ w ≤ 7
  rotate_left
  · rw [if_neg h2]
    refine g_if_ne (tgt := 22) hX dX7_told_17 (by decide) ⟨by omega, by omega⟩ (fun hc => absurd hc (by omega)) (fun _ => ?_)
    exact no (by omega)
  rw [if_pos h2]
  rw [if_pos (by omega)] at hR
  obtain ⟨q, rfl⟩ : ∃ q : Nat, p = (q : Int) := ⟨p.toNat, by omega⟩
  rw [show ((q : Int)).toNat = q from rfl] at hR
  have hmp := IM_p hM (i := q) (by omega)
  refine g_if_ne (tgt := 22) hX dX7_told_17 (by decide) ⟨by omega, by omega⟩ (fun _ => ?_) (fun hc => absurd hc (by omega))
  refine g_iload_n hX dX7_told_22 rfl ?_
  have hcs : w = 0 ∨ w = 1 ∨ w = 2 ∨ w = 3 ∨ w = 4 ∨ w = 5 ∨ w = 6 ∨ w = 7 := by omega
  rcases hcs with rfl | rfl | rfl | rfl | rfl | rfl | rfl | rfl
  · refine g_tin (tgt := 64) hX dX7_told_23 ⟨by decide, by decide⟩ (by decide) (by decide) rfl (by decide) ?_
    refine g_aload_n hX dX7_told_64 rfl ?_
    refine gf_X7_7 hX dX7_told_65 ?_
    refine g_iload_n hX dX7_told_68 rfl ?_
    refine g_ialdN hX dX7_told_69 (N := 40) rfl rfl (by omega) (by decide) ?_
    refine g_iret hX hR dX7_told_70 ⟨_, rfl, rfl, rfl, KpX.rf⟩
  · refine g_tin (tgt := 71) hX dX7_told_23 ⟨by decide, by decide⟩ (by decide) (by decide) rfl (by decide) ?_
    refine g_aload_n hX dX7_told_71 rfl ?_
    refine gf_X7_13 hX dX7_told_72 ?_
    refine g_iload_n hX dX7_told_75 rfl ?_
    refine g_ialdN hX dX7_told_76 (N := 40) rfl rfl (by omega) (by decide) ?_
    refine g_iret hX hR dX7_told_77 ⟨_, rfl, rfl, rfl, KpX.rf⟩
  · refine g_tin (tgt := 78) hX dX7_told_23 ⟨by decide, by decide⟩ (by decide) (by decide) rfl (by decide) ?_
    refine g_aload_n hX dX7_told_78 rfl ?_
    refine gf_X7_16 hX dX7_told_79 ?_
    refine g_iload_n hX dX7_told_82 rfl ?_
    refine g_ialdN hX dX7_told_83 (N := 40) rfl rfl (by omega) (by decide) ?_
    refine g_iret hX hR dX7_told_84 ⟨_, rfl, rfl, rfl, KpX.rf⟩
  · refine g_tin (tgt := 85) hX dX7_told_23 ⟨by decide, by decide⟩ (by decide) (by decide) rfl (by decide) ?_
    refine g_aload_n hX dX7_told_85 rfl ?_
    refine gf_X7_19 hX dX7_told_86 ?_
    refine g_iload_n hX dX7_told_89 rfl ?_
    refine g_ialdN hX dX7_told_90 (N := 40) rfl rfl (by omega) (by decide) ?_
    refine g_iret hX hR dX7_told_91 ⟨_, rfl, rfl, rfl, KpX.rf⟩
  · refine g_tin (tgt := 92) hX dX7_told_23 ⟨by decide, by decide⟩ (by decide) (by decide) rfl (by decide) ?_
    refine g_aload_n hX dX7_told_92 rfl ?_
    refine gf_X7_22 hX dX7_told_93 ?_
    refine g_iload_n hX dX7_told_96 rfl ?_
    refine g_ialdN hX dX7_told_97 (N := 40) rfl rfl (by omega) (by decide) ?_
    refine g_iret hX hR dX7_told_98 ⟨_, rfl, rfl, rfl, KpX.rf⟩
  · refine g_tin (tgt := 99) hX dX7_told_23 ⟨by decide, by decide⟩ (by decide) (by decide) rfl (by decide) ?_
    refine g_aload_n hX dX7_told_99 rfl ?_
    refine gf_X7_25 hX dX7_told_100 ?_
    refine g_iload_n hX dX7_told_103 rfl ?_
    refine g_ialdN hX dX7_told_104 (N := 40) rfl rfl (by omega) (by decide) ?_
    refine g_iret hX hR dX7_told_105 ⟨_, rfl, rfl, rfl, KpX.rf⟩
  · refine g_tin (tgt := 106) hX dX7_told_23 ⟨by decide, by decide⟩ (by decide) (by decide) rfl (by decide) ?_
    refine g_aload_n hX dX7_told_106 rfl ?_
    refine gf_X7_28 hX dX7_told_107 ?_
    refine g_iload_n hX dX7_told_110 rfl ?_
    refine g_ialdN hX dX7_told_111 (N := 40) rfl rfl (by omega) (by decide) ?_
    refine g_iret hX hR dX7_told_112 ⟨_, rfl, rfl, rfl, KpX.rf⟩
  · have hd : μ 84 q = 0 ∨ μ 84 q = 1 := hmp.2.2.2.2.2.2
    refine g_tout (tgt := 113) hX dX7_told_23 ⟨by decide, by decide⟩ (by decide) (by decide) ?_
    refine g_aload_n hX dX7_told_113 rfl ?_
    refine gf_X7_31 hX dX7_told_114 ?_
    refine g_iload_n hX dX7_told_117 rfl ?_
    refine g_zaldN hX dX7_told_118 rfl (by omega) ?_
    refine g_if_eq (tgt := 126) hX dX7_told_119 (by decide) ⟨by omega, by omega⟩ (fun h8 => ?_) (fun h8 => ?_)
    · refine g_iconst hX dX7_told_126 ?_
      refine g_iret hX hR dX7_told_127 ⟨_, rfl, h8.symm, rfl, KpX.rf⟩
    · refine g_iconst hX dX7_told_122 ?_
      refine g_goto (tgt := 127) hX dX7_told_123 (by decide) ?_
      refine g_iret hX hR dX7_told_127 ⟨_, rfl, (show (1 : Int) = μ 84 q by omega), rfl, KpX.rf⟩
set_option maxHeartbeats 4000000 in
theorem m_at {lnch : Launch} {V : VX} (hI : InjV V) {μ : Mem} {c : Nat} {s i : Int} (hM : IM c (vw μ)) (hs : in32 s) (hi : in32 i) : Ct lnch yX7_at cX7_at 3 (some .int) 3 V [vr V 76, vi s, vi i] μ (pI (MP μ (spAt (vw μ) s i))) := by
  refine Ct_of (by decide) hI (Nat.le_of_ble_eq_true rfl) (fun E hE hX hR => ?_)
  have hX : OkX V E RX7 cX7_at 3 3 := hX
  show G V E μ 0 [some (vr V 76), some (vi s), some (vi i)] []
  unfold spAt at hR
  obtain ⟨hi1, hi2⟩ := hi
  have no : ¬ ((0 ≤ s ∧ s < 5) ∧ 0 ≤ i) → G V E μ 11 [some (vr V 76), some (vi s), some (vi i)] [] := fun h => by
    rw [if_neg h] at hR
    refine g_iconst hX dX7_at_11 ?_
    refine g_iret hX hR dX7_at_12 ⟨_, rfl, rfl, rfl, KpX.rf⟩
  refine g_iload_n hX dX7_at_0 rfl ?_
  refine g_s1I hX lk_X7_148 dX7_at_1 (c_isStack hI hs) (by decide) (by decide) rfl (Nat.le_of_ble_eq_true rfl) (fun z μ' hp => ?_)
  obtain ⟨rfl, hm⟩ := hp
  rw [hm]
  clear hm μ'
  by_cases h1 : 0 ≤ s ∧ s < 5
  rotate_left
  · rw [if_neg h1]
    refine g_if_eq (tgt := 11) hX dX7_at_4 (by decide) ⟨by omega, by omega⟩ (fun _ => ?_) (fun hc => absurd hc (by omega))
    exact no (by omega)
  rw [if_pos h1]
  refine g_if_eq (tgt := 11) hX dX7_at_4 (by decide) ⟨by omega, by omega⟩ (fun hc => absurd hc (by omega)) (fun _ => ?_)
  refine g_iload_n hX dX7_at_7 rfl ?_
  refine g_if_ge (tgt := 13) hX dX7_at_8 (by decide) ⟨by omega, by omega⟩ (fun h2 => ?_) (fun h2 => ?_)
  rotate_left
  · exact no (by omega)
  rw [if_pos (by omega)] at hR
  have hy := (hM.2.2.2.1.1 s.toNat (by omega)).1
  have e13 : vw μ 13 s.toNat = μ 89 s.toNat := rfl
  refine g_iload_n hX dX7_at_13 rfl ?_
  refine g_aload_n hX dX7_at_14 rfl ?_
  refine gf_X7_51 hX dX7_at_15 ?_
  refine g_iload_n hX dX7_at_18 rfl ?_
  refine g_ialdN (i := s.toNat) hX dX7_at_19 (N := 5) rfl (by omega) (by omega) (by decide) ?_
  refine g_icmp_ge (tgt := 36) hX dX7_at_20 (by decide) ⟨by omega, by omega⟩ ⟨by omega, by omega⟩ (fun h3 => ?_) (fun h3 => ?_)
  · rw [if_neg (by omega)] at hR
    refine g_bipush hX dX7_at_36 rfl ?_
    refine g_iret hX hR dX7_at_38 ⟨_, rfl, rfl, rfl, KpX.rf⟩
  · rw [if_pos (by omega)] at hR
    refine g_aload_n hX dX7_at_23 rfl ?_
    refine gf_X7_54 hX dX7_at_24 ?_
    refine g_iconst hX dX7_at_27 ?_
    refine g_iload_n hX dX7_at_28 rfl ?_
    refine g_imul hX dX7_at_29 ?_
    refine g_iload_n hX dX7_at_30 rfl ?_
    refine g_iadd hX dX7_at_31 ?_
    refine g_ialdN (i := (4 * s.toNat + i.toNat)) hX dX7_at_32 (N := 20) rfl (by omega) (by omega) (by decide) ?_
    refine g_goto (tgt := 38) hX dX7_at_33 (by decide) ?_
    refine g_iret hX hR dX7_at_38 ⟨_, rfl, rfl, rfl, KpX.rf⟩
set_option maxHeartbeats 4000000 in
theorem m_bed {lnch : Launch} {V : VX} (hI : InjV V) {μ : Mem} {c : Nat} {b w : Int} (hM : IM c (vw μ)) (hb : in32 b) (hw : in32 w) : Ct lnch yX7_bed cX7_bed 5 (some .int) 2 V [vr V 76, vi b, vi w] μ (pI (MP μ (spBed (vw μ) b w))) := by
  refine Ct_of (by decide) hI (Nat.le_of_ble_eq_true rfl) (fun E hE hX hR => ?_)
  have hX : OkX V E RX7 cX7_bed 5 2 := hX
  show G V E μ 0 [some (vr V 76), some (vi b), some (vi w), none, none] []
  unfold spBed at hR
  obtain ⟨N, hN40, hN, hmN⟩ := vw_n hM
  obtain ⟨hw1, hw2⟩ := hw
  obtain ⟨hb1, hb2⟩ := hb
  have no : ¬ ((0 ≤ b ∧ b < 3) ∧ 0 ≤ w ∧ w ≤ 3) → G V E μ 24 [some (vr V 76), some (vi b), some (vi w), none, none] [] := fun h => by
    rw [if_neg h] at hR
    refine g_iconst hX dX7_bed_24 ?_
    refine g_iret hX hR dX7_bed_25 ⟨_, rfl, rfl, rfl, KpX.rf⟩
  refine g_iload_n hX dX7_bed_0 rfl ?_
  refine g_i2l hX dX7_bed_1 ⟨by omega, by omega⟩ ?_
  refine g_lconst hX dX7_bed_2 (z := 0) rfl ?_
  refine g_ldc2 (z := 2) hX dX7_bed_3 tw_660 ?_
  refine g_s3I hX lk_X7_96 dX7_bed_6 (c_in hI ⟨by omega, by omega⟩ ⟨by decide, by decide⟩ ⟨by decide, by decide⟩) (by decide) (by decide) rfl (Nat.le_of_ble_eq_true rfl) (fun z μ' hp => ?_)
  obtain ⟨rfl, hm⟩ := hp
  rw [hm]
  clear hm μ'
  by_cases h1 : 0 ≤ b ∧ b ≤ 2
  rotate_left
  · rw [if_neg h1]
    refine g_if_eq (tgt := 24) hX dX7_bed_9 (by decide) ⟨by omega, by omega⟩ (fun _ => ?_) (fun hc => absurd hc (by omega))
    exact no (by omega)
  rw [if_pos h1]
  refine g_if_eq (tgt := 24) hX dX7_bed_9 (by decide) ⟨by omega, by omega⟩ (fun hc => absurd hc (by omega)) (fun _ => ?_)
  refine g_iload_n hX dX7_bed_12 rfl ?_
  refine g_i2l hX dX7_bed_13 ⟨by omega, by omega⟩ ?_
  refine g_lconst hX dX7_bed_14 (z := 0) rfl ?_
  refine g_ldc2 (z := 3) hX dX7_bed_15 tw_774 ?_
  refine g_s3I hX lk_X7_96 dX7_bed_18 (c_in hI ⟨by omega, by omega⟩ ⟨by decide, by decide⟩ ⟨by decide, by decide⟩) (by decide) (by decide) rfl (Nat.le_of_ble_eq_true rfl) (fun z μ' hp => ?_)
  obtain ⟨rfl, hm⟩ := hp
  rw [hm]
  clear hm μ'
  by_cases h2 : 0 ≤ w ∧ w ≤ 3
  rotate_left
  · rw [if_neg h2]
    refine g_if_ne (tgt := 26) hX dX7_bed_21 (by decide) ⟨by omega, by omega⟩ (fun hc => absurd hc (by omega)) (fun _ => ?_)
    exact no (by omega)
  rw [if_pos h2]
  rw [if_pos (by omega)] at hR
  obtain ⟨t, rfl⟩ : ∃ t : Nat, b = (t : Int) := ⟨b.toNat, by omega⟩
  rw [show ((t : Int)).toNat = t from rfl] at hR
  have hy := hM.2.2.1 t (by omega)
  obtain ⟨q1, -, -⟩ := bed_q hM (b := t) (by omega) hmN
  have e9 : vw μ 9 t = μ 85 t := rfl
  obtain ⟨K, hK⟩ : ∃ K : Nat, μ 85 t = (K : Int) := ⟨(μ 85 t).toNat, by omega⟩
  have fin : G V E μ 84 [some (vr V 76), some (vi (t : Int)), some (vi w), some (vi (bedlen (vw μ) t)), none] [] := by
    have hcs : w = 0 ∨ w = 1 ∨ w = 2 ∨ w = 3 := by omega
    refine g_iload_n hX dX7_bed_84 rfl ?_
    rcases hcs with rfl | rfl | rfl | rfl
    · refine g_if_ne (tgt := 97) hX dX7_bed_85 (by decide) ⟨by omega, by omega⟩ (fun hc => absurd hc (by omega)) (fun _ => ?_)
      refine g_aload_n hX dX7_bed_88 rfl ?_
      refine gf_X7_35 hX dX7_bed_89 ?_
      refine g_iload_n hX dX7_bed_92 rfl ?_
      refine g_ialdN hX dX7_bed_93 (N := 3) rfl rfl (by omega) (by decide) ?_
      refine g_goto (tgt := 144) hX dX7_bed_94 (by decide) ?_
      refine g_iret hX hR dX7_bed_144 ⟨_, rfl, rfl, rfl, KpX.rf⟩
    · refine g_if_ne (tgt := 97) hX dX7_bed_85 (by decide) ⟨by omega, by omega⟩ (fun _ => ?_) (fun hc => absurd hc (by omega))
      refine g_iload_n hX dX7_bed_97 rfl ?_
      refine g_iconst hX dX7_bed_98 ?_
      refine g_icmp_ne (tgt := 106) hX dX7_bed_99 (by decide) ⟨by omega, by omega⟩ ⟨by omega, by omega⟩ (fun hc => absurd hc (by omega)) (fun _ => ?_)
      refine g_iload_n hX dX7_bed_102 rfl ?_
      refine g_goto (tgt := 144) hX dX7_bed_103 (by decide) ?_
      refine g_iret hX hR dX7_bed_144 ⟨_, rfl, rfl, rfl, KpX.rf⟩
    · refine g_if_ne (tgt := 97) hX dX7_bed_85 (by decide) ⟨by omega, by omega⟩ (fun _ => ?_) (fun hc => absurd hc (by omega))
      refine g_iload_n hX dX7_bed_97 rfl ?_
      refine g_iconst hX dX7_bed_98 ?_
      refine g_icmp_ne (tgt := 106) hX dX7_bed_99 (by decide) ⟨by omega, by omega⟩ ⟨by omega, by omega⟩ (fun _ => ?_) (fun hc => absurd hc (by omega))
      refine g_iload_n hX dX7_bed_106 rfl ?_
      refine g_iconst hX dX7_bed_107 ?_
      refine g_icmp_ne (tgt := 120) hX dX7_bed_108 (by decide) ⟨by omega, by omega⟩ ⟨by omega, by omega⟩ (fun hc => absurd hc (by omega)) (fun _ => ?_)
      refine g_aload_n hX dX7_bed_111 rfl ?_
      refine gf_X7_41 hX dX7_bed_112 ?_
      refine g_iload_n hX dX7_bed_115 rfl ?_
      refine g_ialdN hX dX7_bed_116 (N := 3) rfl rfl (by omega) (by decide) ?_
      refine g_goto (tgt := 144) hX dX7_bed_117 (by decide) ?_
      refine g_iret hX hR dX7_bed_144 ⟨_, rfl, rfl, rfl, KpX.rf⟩
    · refine g_if_ne (tgt := 97) hX dX7_bed_85 (by decide) ⟨by omega, by omega⟩ (fun _ => ?_) (fun hc => absurd hc (by omega))
      refine g_iload_n hX dX7_bed_97 rfl ?_
      refine g_iconst hX dX7_bed_98 ?_
      refine g_icmp_ne (tgt := 106) hX dX7_bed_99 (by decide) ⟨by omega, by omega⟩ ⟨by omega, by omega⟩ (fun _ => ?_) (fun hc => absurd hc (by omega))
      refine g_iload_n hX dX7_bed_106 rfl ?_
      refine g_iconst hX dX7_bed_107 ?_
      refine g_icmp_ne (tgt := 120) hX dX7_bed_108 (by decide) ⟨by omega, by omega⟩ ⟨by omega, by omega⟩ (fun _ => ?_) (fun hc => absurd hc (by omega))
      refine g_aload_n hX dX7_bed_120 rfl ?_
      refine gf_X7_35 hX dX7_bed_121 ?_
      refine g_iload_n hX dX7_bed_124 rfl ?_
      refine g_ialdN hX dX7_bed_125 (N := 3) rfl rfl (by omega) (by decide) ?_
      refine g_if_ne (tgt := 133) hX dX7_bed_126 (by decide) ⟨by omega, by omega⟩ (fun h3 => ?_) (fun h3 => ?_)
      · refine g_aload_n hX dX7_bed_133 rfl ?_
        refine gf_X7_135 hX dX7_bed_134 ?_
        refine g_aload_n hX dX7_bed_137 rfl ?_
        refine gf_X7_44 hX dX7_bed_138 ?_
        refine g_iload_n hX dX7_bed_141 rfl ?_
        refine g_ialdN hX dX7_bed_142 (N := 3) rfl rfl (by omega) (by decide) ?_
        refine g_isub hX dX7_bed_143 ?_
        refine g_iret hX hR dX7_bed_144 ⟨_, rfl, ?_, rfl, KpX.rf⟩
        show _ = if vw μ 9 t = 0 then 0 else vw μ 0 14 - vw μ 12 t
        rw [if_neg (show ¬ vw μ 9 t = 0 from h3)]
        rfl
      · refine g_iconst hX dX7_bed_129 ?_
        refine g_goto (tgt := 144) hX dX7_bed_130 (by decide) ?_
        refine g_iret hX hR dX7_bed_144 ⟨_, rfl, ?_, rfl, KpX.rf⟩
        show _ = if vw μ 9 t = 0 then 0 else vw μ 0 14 - vw μ 12 t
        rw [if_pos (show vw μ 9 t = 0 from h3)]
  have loop : ∀ (d k : Nat), k + d = K → 0 < K → G V E μ 45 [some (vr V 76), some (vi (t : Int)), some (vi w), some (vi (bedK (vw μ) t k)), some (vi (k : Int))] [] := by
    intro d
    induction d with
    | zero =>
      intro k hk h0
      refine g_iload hX dX7_bed_45 rfl ?_
      refine g_aload_n hX dX7_bed_47 rfl ?_
      refine gf_X7_35 hX dX7_bed_48 ?_
      refine g_iload_n hX dX7_bed_51 rfl ?_
      refine g_ialdN hX dX7_bed_52 (N := 3) rfl rfl (by omega) (by decide) ?_
      refine g_icmp_ge (tgt := 84) hX dX7_bed_53 (by decide) ⟨by omega, by omega⟩ ⟨by omega, by omega⟩ (fun _ => ?_) (fun hc => absurd hc (by omega))
      refine fg_5_4 ?_
      have : bedlen (vw μ) t = bedK (vw μ) t k := by unfold bedlen; rw [if_neg (by omega), e9, hK, show K = k by omega]; rfl
      rw [← this]
      exact fin
    | succ d ih =>
      intro k hk h0
      have hq := q1 k (by omega)
      have e10 : μ 86 (40 * t + k) = (qB (vw μ) t k : Int) := hq.1
      refine g_iload hX dX7_bed_45 rfl ?_
      refine g_aload_n hX dX7_bed_47 rfl ?_
      refine gf_X7_35 hX dX7_bed_48 ?_
      refine g_iload_n hX dX7_bed_51 rfl ?_
      refine g_ialdN hX dX7_bed_52 (N := 3) rfl rfl (by omega) (by decide) ?_
      refine g_icmp_ge (tgt := 84) hX dX7_bed_53 (by decide) ⟨by omega, by omega⟩ ⟨by omega, by omega⟩ (fun hc => absurd hc (by omega)) (fun _ => ?_)
      refine g_iload_n hX dX7_bed_56 rfl ?_
      refine g_aload_n hX dX7_bed_57 rfl ?_
      refine gf_X7_7 hX dX7_bed_58 ?_
      refine g_aload_n hX dX7_bed_61 rfl ?_
      refine gf_X7_38 hX dX7_bed_62 ?_
      refine g_bipush hX dX7_bed_65 rfl ?_
      refine g_iload_n hX dX7_bed_67 rfl ?_
      refine g_imul hX dX7_bed_68 ?_
      refine g_iload hX dX7_bed_69 rfl ?_
      refine g_iadd hX dX7_bed_71 ?_
      refine g_ialdN (i := (40 * t + k)) hX dX7_bed_72 (N := 120) rfl (by omega) (by omega) (by decide) ?_
      rw [e10]
      refine g_ialdN hX dX7_bed_73 (N := 40) rfl rfl (by omega) (by decide) ?_
      refine g_iconst hX dX7_bed_74 ?_
      refine g_iadd hX dX7_bed_75 ?_
      refine g_iadd hX dX7_bed_76 ?_
      refine st_istore_n_5_3 hX dX7_bed_77 (by first | exact ck_i _ | exact ck_r _ _ | exact ck_n | exact ck_0) ?_
      refine st_iinc_5_4 hX dX7_bed_78 (by first | exact ck_i _ | exact ck_r _ _ | exact ck_n | exact ck_0) ?_
      refine g_goto (tgt := 45) hX dX7_bed_81 (by decide) ?_
      exact ih (k + 1) (by omega) h0
  refine g_if_ne (tgt := 26) hX dX7_bed_21 (by decide) ⟨by omega, by omega⟩ (fun _ => ?_) (fun hc => absurd hc (by omega))
  refine g_aload_n hX dX7_bed_26 rfl ?_
  refine gf_X7_35 hX dX7_bed_27 ?_
  refine g_iload_n hX dX7_bed_30 rfl ?_
  refine g_ialdN hX dX7_bed_31 (N := 3) rfl rfl (by omega) (by decide) ?_
  refine g_if_ne (tgt := 39) hX dX7_bed_32 (by decide) ⟨by omega, by omega⟩ (fun h3 => ?_) (fun h3 => ?_)
  · refine g_bipush hX dX7_bed_39 rfl ?_
    refine st_istore_n_5_3 hX dX7_bed_41 (by first | exact ck_i _ | exact ck_r _ _ | exact ck_n | exact ck_0) ?_
    refine g_iconst hX dX7_bed_42 ?_
    refine st_istore_5_4 hX dX7_bed_43 (by first | exact ck_i _ | exact ck_r _ _ | exact ck_n | exact ck_0) ?_
    exact loop K 0 (by omega) (by omega)
  · refine g_iconst hX dX7_bed_35 ?_
    refine g_goto (tgt := 41) hX dX7_bed_36 (by decide) ?_
    refine st_istore_n_5_3 hX dX7_bed_41 (by first | exact ck_i _ | exact ck_r _ _ | exact ck_n | exact ck_0) ?_
    refine g_iconst hX dX7_bed_42 ?_
    refine st_istore_5_4 hX dX7_bed_43 (by first | exact ck_i _ | exact ck_r _ _ | exact ck_n | exact ck_0) ?_
    refine g_iload hX dX7_bed_45 rfl ?_
    refine g_aload_n hX dX7_bed_47 rfl ?_
    refine gf_X7_35 hX dX7_bed_48 ?_
    refine g_iload_n hX dX7_bed_51 rfl ?_
    refine g_ialdN hX dX7_bed_52 (N := 3) rfl rfl (by omega) (by decide) ?_
    refine g_icmp_ge (tgt := 84) hX dX7_bed_53 (by decide) ⟨by omega, by omega⟩ ⟨by omega, by omega⟩ (fun _ => ?_) (fun hc => absurd hc (by omega))
    refine fg_5_4 ?_
    have : bedlen (vw μ) t = 0 := by unfold bedlen; rw [if_pos (by omega)]
    rw [this] at fin
    exact fin
set_option maxHeartbeats 4000000 in
theorem m_count {lnch : Launch} {V : VX} (hI : InjV V) {μ : Mem} {c : Nat} {w : Int} (hM : IM c (vw μ)) (hw : in32 w) : Ct lnch yX7_count cX7_count 4 (some .int) 2 V [vr V 76, vi w] μ (pI (MP μ (spCount (vw μ) w))) := by
  refine Ct_of (by decide) hI (Nat.le_of_ble_eq_true rfl) (fun E hE hX hR => ?_)
  have hX : OkX V E RX7 cX7_count 4 2 := hX
  show G V E μ 0 [some (vr V 76), some (vi w), none, none] []
  unfold spCount at hR
  obtain ⟨N, hN40, hN, hmN⟩ := vw_n hM
  obtain ⟨hw1, hw2⟩ := hw
  refine g_iload_n hX dX7_count_0 rfl ?_
  refine g_i2l hX dX7_count_1 ⟨by omega, by omega⟩ ?_
  refine g_lconst hX dX7_count_2 (z := 0) rfl ?_
  refine g_ldc2 (z := 10) hX dX7_count_3 tw_779 ?_
  refine g_s3I hX lk_X7_96 dX7_count_6 (c_in hI ⟨by omega, by omega⟩ ⟨by decide, by decide⟩ ⟨by decide, by decide⟩) (by decide) (by decide) rfl (Nat.le_of_ble_eq_true rfl) (fun z μ' hp => ?_)
  obtain ⟨rfl, hm⟩ := hp
  rw [hm]
  clear hm μ'
  by_cases h1 : 0 ≤ w ∧ w ≤ 10
  rotate_left
  · rw [if_neg h1]
    rw [if_neg h1] at hR
    refine g_if_ne (tgt := 14) hX dX7_count_9 (by decide) ⟨by omega, by omega⟩ (fun hc => absurd hc (by omega)) (fun _ => ?_)
    refine g_iconst hX dX7_count_12 ?_
    refine g_iret hX hR dX7_count_13 ⟨_, rfl, rfl, rfl, KpX.rf⟩
  rw [if_pos h1]
  rw [if_pos h1] at hR
  refine g_if_ne (tgt := 14) hX dX7_count_9 (by decide) ⟨by omega, by omega⟩ (fun _ => ?_) (fun hc => absurd hc (by omega))
  refine g_iload_n hX dX7_count_14 rfl ?_
  refine g_iconst hX dX7_count_15 ?_
  refine g_icmp_ge (tgt := 59) hX dX7_count_16 (by decide) ⟨by omega, by omega⟩ ⟨by omega, by omega⟩ (fun h2 => ?_) (fun h2 => ?_)
  rotate_left
  · have hcs : w = 0 ∨ w = 1 ∨ w = 2 ∨ w = 3 := by omega
    refine g_iload_n hX dX7_count_19 rfl ?_
    rcases hcs with rfl | rfl | rfl | rfl
    · refine g_if_ne (tgt := 30) hX dX7_count_20 (by decide) ⟨by omega, by omega⟩ (fun hc => absurd hc (by omega)) (fun _ => ?_)
      refine g_aload_n hX dX7_count_23 rfl ?_
      refine gf_X7_93 hX dX7_count_24 ?_
      refine g_goto (tgt := 58) hX dX7_count_27 (by decide) ?_
      refine g_iret hX hR dX7_count_58 ⟨_, rfl, rfl, rfl, KpX.rf⟩
    · refine g_if_ne (tgt := 30) hX dX7_count_20 (by decide) ⟨by omega, by omega⟩ (fun _ => ?_) (fun hc => absurd hc (by omega))
      refine g_iload_n hX dX7_count_30 rfl ?_
      refine g_iconst hX dX7_count_31 ?_
      refine g_icmp_ne (tgt := 42) hX dX7_count_32 (by decide) ⟨by omega, by omega⟩ ⟨by omega, by omega⟩ (fun hc => absurd hc (by omega)) (fun _ => ?_)
      refine g_aload_n hX dX7_count_35 rfl ?_
      refine gf_X7_135 hX dX7_count_36 ?_
      refine g_goto (tgt := 58) hX dX7_count_39 (by decide) ?_
      refine g_iret hX hR dX7_count_58 ⟨_, rfl, rfl, rfl, KpX.rf⟩
    · refine g_if_ne (tgt := 30) hX dX7_count_20 (by decide) ⟨by omega, by omega⟩ (fun _ => ?_) (fun hc => absurd hc (by omega))
      refine g_iload_n hX dX7_count_30 rfl ?_
      refine g_iconst hX dX7_count_31 ?_
      refine g_icmp_ne (tgt := 42) hX dX7_count_32 (by decide) ⟨by omega, by omega⟩ ⟨by omega, by omega⟩ (fun _ => ?_) (fun hc => absurd hc (by omega))
      refine g_iload_n hX dX7_count_42 rfl ?_
      refine g_iconst hX dX7_count_43 ?_
      refine g_icmp_ne (tgt := 54) hX dX7_count_44 (by decide) ⟨by omega, by omega⟩ ⟨by omega, by omega⟩ (fun hc => absurd hc (by omega)) (fun _ => ?_)
      refine g_aload_n hX dX7_count_47 rfl ?_
      refine gf_X7_197 hX dX7_count_48 ?_
      refine g_goto (tgt := 58) hX dX7_count_51 (by decide) ?_
      refine g_iret hX hR dX7_count_58 ⟨_, rfl, rfl, rfl, KpX.rf⟩
    · refine g_if_ne (tgt := 30) hX dX7_count_20 (by decide) ⟨by omega, by omega⟩ (fun _ => ?_) (fun hc => absurd hc (by omega))
      refine g_iload_n hX dX7_count_30 rfl ?_
      refine g_iconst hX dX7_count_31 ?_
      refine g_icmp_ne (tgt := 42) hX dX7_count_32 (by decide) ⟨by omega, by omega⟩ ⟨by omega, by omega⟩ (fun _ => ?_) (fun hc => absurd hc (by omega))
      refine g_iload_n hX dX7_count_42 rfl ?_
      refine g_iconst hX dX7_count_43 ?_
      refine g_icmp_ne (tgt := 54) hX dX7_count_44 (by decide) ⟨by omega, by omega⟩ ⟨by omega, by omega⟩ (fun _ => ?_) (fun hc => absurd hc (by omega))
      refine g_aload_n hX dX7_count_54 rfl ?_
      refine gf_X7_138 hX dX7_count_55 ?_
      refine g_iret hX hR dX7_count_58 ⟨_, rfl, rfl, rfl, KpX.rf⟩
  rw [if_neg (by omega), if_neg (by omega), if_neg (by omega), if_neg (by omega)] at hR
  have hcl : ∀ k : Nat, cntW (vw μ) (w - 4) k ≤ k := by
    intro k
    induction k with
    | zero => exact Nat.le_refl 0
    | succ k ih => unfold cntW; split <;> omega
  have loop : ∀ (d k : Nat), k + d = N → G V E μ 63 [some (vr V 76), some (vi w), some (vi (cntW (vw μ) (w - 4) k : Int)), some (vi (k : Int))] [] := by
    intro d
    induction d with
    | zero =>
      intro k hk
      refine g_iload_n hX dX7_count_63 rfl ?_
      refine g_aload_n hX dX7_count_64 rfl ?_
      refine gf_X7_93 hX dX7_count_65 ?_
      refine g_icmp_ge (tgt := 97) hX dX7_count_68 (by decide) ⟨by omega, by omega⟩ ⟨by omega, by omega⟩ (fun _ => ?_) (fun hc => absurd hc (by omega))
      refine g_iload_n hX dX7_count_97 rfl ?_
      refine g_iret hX hR dX7_count_98 ⟨_, rfl, ?_, rfl, KpX.rf⟩
      show _ = (cntW (vw μ) (w - 4) (vw μ 0 0).toNat : Int)
      rw [show (vw μ 0 0).toNat = k by omega]
    | succ d ih =>
      intro k hk
      have hp := (IM_p hM (i := k) (by omega)).2.2.2.2.1
      have e5 : vw μ 5 k = μ 81 k := rfl
      have := ih (k + 1) (by omega)
      unfold cntW at this
      refine g_iload_n hX dX7_count_63 rfl ?_
      refine g_aload_n hX dX7_count_64 rfl ?_
      refine gf_X7_93 hX dX7_count_65 ?_
      refine g_icmp_ge (tgt := 97) hX dX7_count_68 (by decide) ⟨by omega, by omega⟩ ⟨by omega, by omega⟩ (fun hc => absurd hc (by omega)) (fun _ => ?_)
      refine g_iload_n hX dX7_count_71 rfl ?_
      refine g_aload_n hX dX7_count_72 rfl ?_
      refine gf_X7_22 hX dX7_count_73 ?_
      refine g_iload_n hX dX7_count_76 rfl ?_
      refine g_ialdN hX dX7_count_77 (N := 40) rfl rfl (by omega) (by decide) ?_
      refine g_iload_n hX dX7_count_78 rfl ?_
      refine g_iconst hX dX7_count_79 ?_
      refine g_isub hX dX7_count_80 ?_
      refine g_icmp_ne (tgt := 88) hX dX7_count_81 (by decide) ⟨by omega, by omega⟩ ⟨by omega, by omega⟩ (fun h3 => ?_) (fun h3 => ?_)
      · rw [if_neg (by omega)] at this
        refine g_iconst hX dX7_count_88 ?_
        refine g_iadd hX dX7_count_89 ?_
        refine st_istore_n_4_2 hX dX7_count_90 (by first | exact ck_i _ | exact ck_r _ _ | exact ck_n | exact ck_0) ?_
        refine st_iinc_4_3 hX dX7_count_91 (by first | exact ck_i _ | exact ck_r _ _ | exact ck_n | exact ck_0) ?_
        refine g_goto (tgt := 63) hX dX7_count_94 (by decide) ?_
        exact this
      · rw [if_pos (by omega)] at this
        refine g_iconst hX dX7_count_84 ?_
        refine g_goto (tgt := 89) hX dX7_count_85 (by decide) ?_
        refine g_iadd hX dX7_count_89 ?_
        refine st_istore_n_4_2 hX dX7_count_90 (by first | exact ck_i _ | exact ck_r _ _ | exact ck_n | exact ck_0) ?_
        refine st_iinc_4_3 hX dX7_count_91 (by first | exact ck_i _ | exact ck_r _ _ | exact ck_n | exact ck_0) ?_
        refine g_goto (tgt := 63) hX dX7_count_94 (by decide) ?_
        exact this
  refine g_iconst hX dX7_count_59 ?_
  refine st_istore_n_4_2 hX dX7_count_60 (by first | exact ck_i _ | exact ck_r _ _ | exact ck_n | exact ck_0) ?_
  refine g_iconst hX dX7_count_61 ?_
  refine st_istore_n_4_3 hX dX7_count_62 (by first | exact ck_i _ | exact ck_r _ _ | exact ck_n | exact ck_0) ?_
  exact loop N 0 (by omega)
