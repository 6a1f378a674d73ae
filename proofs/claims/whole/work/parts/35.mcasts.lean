/-! the reference's call casts -/
def ScM (μ μ' : Mem) : Prop := (∀ k, 77 ≤ k → k ≤ 91 → μ' k = μ k) ∧ (∀ j, j ≠ 21 → j ≠ 26 → μ' 76 j = μ 76 j) ∧ μ' 93 0 = μ 93 0
def MPc (μ : Mem) (P : Int → Prop) : Int → Mem → Prop := fun z μ' => P z ∧ KpX μ μ' ∧ ScM μ μ'
def CK (μ ν : Mem) (N f d : Nat) : Prop := ((∀ k, k ≠ 92 → k ≠ 76 → ν k = μ k) ∧ ∀ j, j ≠ 21 → ν 76 j = μ 76 j) ∧ (cntD (vw μ) f d ≤ 12 → ν 76 21 = (cntD (vw μ) f d : Int)) ∧ (12 < cntD (vw μ) f d → ν 76 21 = 12) ∧
  (∀ k, k < 12 → k < cntD (vw μ) f d → 0 ≤ ν 92 k ∧ ν 92 k < (N : Int)) ∧
  (cntD (vw μ) f d ≤ 12 → ∀ p : Nat, LIS (szM ν) (plM ν) (fun _ => true) (p : Int) (cntD (vw μ) f d) = Lp (vw μ) p f d)
theorem CK.kx {μ ν : Mem} {N f d : Nat} (h : CK μ ν N f d) : KpX μ ν := fun k hk => h.1.1 k (by omega) (by omega)
theorem CK.sc {μ ν : Mem} {N f d : Nat} (h : CK μ ν N f d) : ScM μ ν := ⟨fun k h1 h2 => h.1.1 k (by omega) (by omega), fun j h1 _ => h.1.2 j h1, by rw [h.1.1 93 (by decide) (by decide)]⟩
theorem CK_skip {μ ν : Mem} {N f d : Nat} (h : CK μ ν N f d) (h0 : vw μ 5 (f + d) ≠ 0) : cntD (vw μ) f (d + 1) = cntD (vw μ) f d ∧ CK μ ν N f (d + 1) := by
  have hc : cntD (vw μ) f (d + 1) = cntD (vw μ) f d := by
    show cntD (vw μ) f d + (if vw μ 5 (f + d) = 0 then 1 else 0) = _
    rw [if_neg h0]; rfl
  refine ⟨hc, ?_⟩
  obtain ⟨h1, h2, h3, h4, h5⟩ := h
  unfold CK
  rw [hc]
  refine ⟨h1, h2, h3, h4, fun h6 p => ?_⟩
  rw [h5 h6 p]
  show _ = (if vw μ 5 (f + d) = 0 ∧ vw μ 2 (f + d) = (p : Int) then _ else _)
  rw [if_neg (fun q => h0 q.1)]
theorem CK_full {μ ν : Mem} {N f d : Nat} (h : CK μ ν N f d) (h0 : vw μ 5 (f + d) = 0) (hf : 12 ≤ cntD (vw μ) f d) : cntD (vw μ) f (d + 1) = cntD (vw μ) f d + 1 ∧ CK μ ν N f (d + 1) := by
  have hc : cntD (vw μ) f (d + 1) = cntD (vw μ) f d + 1 := by
    show cntD (vw μ) f d + (if vw μ 5 (f + d) = 0 then 1 else 0) = _
    rw [if_pos h0]
  refine ⟨hc, ?_⟩
  obtain ⟨h1, h2, h3, h4, h5⟩ := h
  unfold CK
  rw [hc]
  refine ⟨h1, fun h => absurd h (by omega), fun _ => ?_, fun k hk _ => h4 k hk (by omega), fun h6 => absurd h6 (by omega)⟩
  by_cases e : cntD (vw μ) f d = 12
  · rw [h2 (by omega), e]; rfl
  · exact h3 (by omega)
theorem CK_put {μ ν : Mem} {N f d : Nat} (h : CK μ ν N f d) (h0 : vw μ 5 (f + d) = 0) (hf : cntD (vw μ) f d < 12) (hN : f + d < N) : cntD (vw μ) f (d + 1) = cntD (vw μ) f d + 1 ∧ CK μ (mset (mset ν 92 (cntD (vw μ) f d) ((f + d : Nat) : Int)) 76 21 ((cntD (vw μ) f d : Int) + 1)) N f (d + 1) := by
  have hc : cntD (vw μ) f (d + 1) = cntD (vw μ) f d + 1 := by
    show cntD (vw μ) f d + (if vw μ 5 (f + d) = 0 then 1 else 0) = _
    rw [if_pos h0]
  refine ⟨hc, ?_⟩
  obtain ⟨h1, h2, h3, h4, h5⟩ := h
  have a92 : ∀ k, mset (mset ν 92 (cntD (vw μ) f d) ((f + d : Nat) : Int)) 76 21 ((cntD (vw μ) f d : Int) + 1) 92 k = if k = cntD (vw μ) f d then ((f + d : Nat) : Int) else ν 92 k := fun k => by
    rw [mset_ne (Or.inl (by decide))]
    by_cases e : k = cntD (vw μ) f d
    · rw [if_pos e, e, mset_same]
    · rw [if_neg e, mset_ne (Or.inr e)]
  have ao : ∀ k, k ≠ 92 → k ≠ 76 → mset (mset ν 92 (cntD (vw μ) f d) ((f + d : Nat) : Int)) 76 21 ((cntD (vw μ) f d : Int) + 1) k = ν k := fun k hk1 hk2 => by
    rw [mset_cell (fun q => hk2 q.symm), mset_cell (fun q => hk1 q.symm)]
  have e1 : ∀ k, 77 ≤ k → k < 92 → ν k = vw μ (k - 76) := fun k hk1 hk2 => by
    rw [h1.1 k (by omega) (by omega)]
    show _ = μ (76 + (k - 76))
    rw [show 76 + (k - 76) = k by omega]
  unfold CK
  rw [hc]
  refine ⟨⟨fun k hk1 hk2 => by rw [ao k hk1 hk2]; exact h1.1 k hk1 hk2, fun j hj => by rw [mset_ne (Or.inr hj), mset_ne (Or.inl (by decide))]; exact h1.2 j hj⟩, fun _ => by rw [mset_same]; omega, fun h => absurd h (by omega), fun k hk1 hk2 => ?_, fun h6 p => ?_⟩
  · rw [a92]
    by_cases e : k = cntD (vw μ) f d
    · rw [if_pos e]; omega
    · rw [if_neg e]; exact h4 k hk1 (by omega)
  · show (if (fun _ : Nat => true) (cntD (vw μ) f d) = true ∧ plM _ (cntD (vw μ) f d) = (p : Int) then szM _ (cntD (vw μ) f d) :: LIS _ _ _ _ _ else LIS _ _ _ _ _) = if vw μ 5 (f + d) = 0 ∧ vw μ 2 (f + d) = (p : Int) then (vw μ 1 (f + d) + 4) :: Lp (vw μ) p f d else Lp (vw μ) p f d
    have hs : szM (mset (mset ν 92 (cntD (vw μ) f d) ((f + d : Nat) : Int)) 76 21 ((cntD (vw μ) f d : Int) + 1)) (cntD (vw μ) f d) = vw μ 1 (f + d) + 4 := by
      unfold szM
      rw [a92, if_pos rfl, ao 77 (by decide) (by decide), e1 77 (by decide) (by decide)]
      rfl
    have hp : plM (mset (mset ν 92 (cntD (vw μ) f d) ((f + d : Nat) : Int)) 76 21 ((cntD (vw μ) f d : Int) + 1)) (cntD (vw μ) f d) = vw μ 2 (f + d) := by
      unfold plM
      rw [a92, if_pos rfl, ao 78 (by decide) (by decide), e1 78 (by decide) (by decide)]
      rfl
    have hl : LIS (szM (mset (mset ν 92 (cntD (vw μ) f d) ((f + d : Nat) : Int)) 76 21 ((cntD (vw μ) f d : Int) + 1))) (plM (mset (mset ν 92 (cntD (vw μ) f d) ((f + d : Nat) : Int)) 76 21 ((cntD (vw μ) f d : Int) + 1))) (fun _ => true) (p : Int) (cntD (vw μ) f d) = Lp (vw μ) p f d := by
      rw [← h5 (by omega) p]
      refine LIS_cg2 _ (fun i hi => ?_)
      unfold szM plM
      rw [a92, if_neg (by omega), ao 77 (by decide) (by decide), ao 78 (by decide) (by decide)]
      exact ⟨rfl, rfl⟩
    rw [hs, hp, hl]
    by_cases e : vw μ 2 (f + d) = (p : Int)
    · rw [if_pos ⟨rfl, e⟩, if_pos ⟨h0, e⟩]
    · rw [if_neg (fun q => e q.2), if_neg (fun q => e q.2)]
theorem nch {P : Nat → Nat → Prop} (h : ∀ p : Nat, p < 8 → ∃ n, P p n) : ∃ n : Nat → Nat, ∀ p, p < 8 → P p (n p) :=
  ⟨fun p => if hp : p < 8 then Classical.choose (h p hp) else 0, fun p hp => by
    show P p (if hp : p < 8 then Classical.choose (h p hp) else 0)
    rw [dif_pos hp]; exact Classical.choose_spec (h p hp)⟩
set_option maxHeartbeats 4000000 in
theorem m_casts {lnch : Launch} {V : VX} (hI : InjV V) {μ : Mem} {c : Nat} {f t w : Int} (hM : IM c (vw μ)) (hf : in32 f) (ht : in32 t) (hw : in32 w) : Ct lnch yX7_casts cX7_casts 6 (some .int) 3 V [vr V 76, vi f, vi t, vi w] μ (pI (MPc μ (ansC (vw μ) f t w))) := by
  refine Ct_of (by decide) hI (Nat.le_of_ble_eq_true rfl) (fun E hE hX hR => ?_)
  have hX : OkX V E RX7 cX7_casts 6 3 := hX
  show G V E μ 0 [some (vr V 76), some (vi f), some (vi t), some (vi w), none, none] []
  obtain ⟨N, hN40, hN, hmN⟩ := vw_n hM
  have bad : ¬ (0 ≤ f ∧ f < vw μ 0 0 ∧ 0 ≤ t ∧ t < vw μ 0 0 ∧ f ≤ t ∧ 0 ≤ w ∧ w ≤ 1 ∧ cntD (vw μ) f.toNat (t.toNat + 1 - f.toNat) ≤ 12) → G V E μ 31 [some (vr V 76), some (vi f), some (vi t), some (vi w), none, none] [] := fun h => by
    refine g_iconst hX dX7_casts_31 ?_
    refine g_iret hX hR dX7_casts_32 ⟨_, rfl, Or.inr ⟨h, rfl⟩, KpX.rf, ⟨fun _ _ _ => rfl, fun _ _ _ => rfl, rfl⟩⟩
  have hft := hf
  have htt := ht
  have hwt := hw
  obtain ⟨hf1, hf2⟩ := hft
  obtain ⟨ht1, ht2⟩ := htt
  obtain ⟨hw1, hw2⟩ := hwt
  refine g_aload_n hX dX7_casts_0 rfl ?_
  refine g_iload_n hX dX7_casts_1 rfl ?_
  refine g_v1I hX lk_X7_114 dX7_casts_2 (c0 := 7) ok76 ⟨_, rfl, rfl⟩ (c_isPart hI hN hN40 hf) (by first | decide | omega) (by decide) rfl (Nat.le_of_ble_eq_true rfl) (fun z μ' hp => ?_)
  obtain ⟨rfl, hm⟩ := hp
  rw [hm]
  clear hm μ'
  by_cases h1 : 0 ≤ f ∧ f < (N : Int)
  rotate_left
  · rw [if_neg h1]
    refine g_if_eq (tgt := 31) hX dX7_casts_5 (by decide) ⟨by omega, by omega⟩ (fun _ => ?_) (fun hc => absurd hc (by omega))
    exact bad (by omega)
  rw [if_pos h1]
  refine g_if_eq (tgt := 31) hX dX7_casts_5 (by decide) ⟨by omega, by omega⟩ (fun hc => absurd hc (by omega)) (fun _ => ?_)
  refine g_aload_n hX dX7_casts_8 rfl ?_
  refine g_iload_n hX dX7_casts_9 rfl ?_
  refine g_v1I hX lk_X7_114 dX7_casts_10 (c0 := 7) ok76 ⟨_, rfl, rfl⟩ (c_isPart hI hN hN40 ht) (by first | decide | omega) (by decide) rfl (Nat.le_of_ble_eq_true rfl) (fun z μ' hp => ?_)
  obtain ⟨rfl, hm⟩ := hp
  rw [hm]
  clear hm μ'
  by_cases h2 : 0 ≤ t ∧ t < (N : Int)
  rotate_left
  · rw [if_neg h2]
    refine g_if_eq (tgt := 31) hX dX7_casts_13 (by decide) ⟨by omega, by omega⟩ (fun _ => ?_) (fun hc => absurd hc (by omega))
    exact bad (by omega)
  rw [if_pos h2]
  refine g_if_eq (tgt := 31) hX dX7_casts_13 (by decide) ⟨by omega, by omega⟩ (fun hc => absurd hc (by omega)) (fun _ => ?_)
  refine g_iload_n hX dX7_casts_16 rfl ?_
  refine g_iload_n hX dX7_casts_17 rfl ?_
  refine g_icmp_lt (tgt := 31) hX dX7_casts_18 (by decide) ⟨by omega, by omega⟩ ⟨by omega, by omega⟩ (fun h3 => ?_) (fun h3 => ?_)
  · exact bad (by omega)
  refine g_iload_n hX dX7_casts_21 rfl ?_
  refine g_i2l hX dX7_casts_22 ⟨by omega, by omega⟩ ?_
  refine g_lconst hX dX7_casts_23 (z := 0) rfl ?_
  refine g_lconst hX dX7_casts_24 (z := 1) rfl ?_
  refine g_s3I hX lk_X7_96 dX7_casts_25 (c_in hI ⟨by omega, by omega⟩ ⟨by decide, by decide⟩ ⟨by decide, by decide⟩) (by decide) (by decide) rfl (Nat.le_of_ble_eq_true rfl) (fun z μ' hp => ?_)
  obtain ⟨rfl, hm⟩ := hp
  rw [hm]
  clear hm μ'
  by_cases h4 : 0 ≤ w ∧ w ≤ 1
  rotate_left
  · rw [if_neg h4]
    refine g_if_ne (tgt := 33) hX dX7_casts_28 (by decide) ⟨by omega, by omega⟩ (fun hc => absurd hc (by omega)) (fun _ => ?_)
    exact bad (by omega)
  rw [if_pos h4]
  refine g_if_ne (tgt := 33) hX dX7_casts_28 (by decide) ⟨by omega, by omega⟩ (fun _ => ?_) (fun hc => absurd hc (by omega))
  obtain ⟨g, rfl⟩ : ∃ g : Nat, f = (g : Int) := ⟨f.toNat, by omega⟩
  obtain ⟨s, rfl⟩ : ∃ s : Nat, t = (s : Int) := ⟨t.toNat, by omega⟩
  rw [show ((g : Int)).toNat = g from rfl, show ((s : Int)).toNat = s from rfl] at bad
  have fin : ∀ (ν : Mem) (C : Nat) (z5 : Option Value), C = cntD (vw μ) g (s + 1 - g) → CK μ ν N g (s + 1 - g) → G V E ν 99 [some (vr V 76), some (vi (g : Int)), some (vi (s : Int)), some (vi w), some (vi (C : Int)), z5] [] := fun ν C z5 hC hk => by
    have hle := cntD_le (vw μ) g (s + 1 - g)
    refine g_iload hX dX7_casts_99 rfl ?_
    refine g_bipush hX dX7_casts_101 rfl ?_
    refine g_icmp_le (tgt := 108) hX dX7_casts_103 (by decide) ⟨by omega, by omega⟩ ⟨by omega, by omega⟩ (fun h5 => ?_) (fun h5 => ?_)
    rotate_left
    · refine g_iconst hX dX7_casts_106 ?_
      refine g_iret hX hR dX7_casts_107 ⟨_, rfl, Or.inr ⟨fun q => h5 (by have q8 : cntD (vw μ) g (s + 1 - g) ≤ 12 := q.2.2.2.2.2.2.2; omega), rfl⟩, hk.kx, hk.sc⟩
    have hC12 : C ≤ 12 := by omega
    have h12 : cntD (vw μ) g (s + 1 - g) ≤ 12 := by omega
    have guard : 0 ≤ (g : Int) ∧ (g : Int) < vw μ 0 0 ∧ 0 ≤ (s : Int) ∧ (s : Int) < vw μ 0 0 ∧ (g : Int) ≤ (s : Int) ∧ 0 ≤ w ∧ w ≤ 1 ∧ cntD (vw μ) ((g : Int)).toNat (((s : Int)).toNat + 1 - ((g : Int)).toNat) ≤ 12 := ⟨by omega, by omega, by omega, by omega, by omega, by omega, by omega, h12⟩
    have hLp := hk.2.2.2.2 h12
    have ak : AK ν C := by
      refine ⟨by rw [hC]; exact hk.2.1 h12, hC12, fun k hk1 => ?_⟩
      have hb := hk.2.2.2.1 k (by omega) (by omega)
      have hmp := IM_p hM (i := (ν 92 k).toNat) (by omega)
      have e1 : szM ν k = vw μ 1 (ν 92 k).toNat + 4 := by
        unfold szM
        rw [hk.1.1 77 (by decide) (by decide)]
        rfl
      have e2 : plM ν k = vw μ 2 (ν 92 k).toNat := by
        unfold plM
        rw [hk.1.1 78 (by decide) (by decide)]
        rfl
      rw [e1, e2]
      exact ⟨by omega, by omega, by omega⟩
    refine g_iload_n hX dX7_casts_108 rfl ?_
    refine g_if_ne (tgt := 119) hX dX7_casts_109 (by decide) ⟨by omega, by omega⟩ (fun h6 => ?_) (fun h6 => ?_)
    · have hw1 : w = 1 := by omega
      refine g_aload_n hX dX7_casts_119 rfl ?_
      refine g_v0I hX lk_X7_130 dX7_casts_120 (c0 := 7) ok76 ⟨_, rfl, rfl⟩ (c_mplain hI ak) (by first | decide | omega) (by decide) rfl (Nat.le_of_ble_eq_true rfl) (fun z μ' hp => ?_)
      obtain ⟨⟨n, hn, hz⟩, hk9⟩ := hp
      rw [hz]
      refine g_iret hX hR dX7_casts_123 ⟨_, rfl, Or.inl ⟨guard, Or.inr ⟨hw1, n, fun p hp => ?_, rfl⟩⟩, hk.kx.tr (fun k hk1 => hk9 k (by omega)), ?_⟩
      · obtain ⟨S, hS1, hS2, hS3⟩ := hn p hp
        refine ⟨S, ?_, hS2, hS3⟩
        rw [hC, hLp p] at hS1
        exact hS1
      · exact ⟨fun k h7 h8 => by rw [hk9 k (by omega)]; exact hk.sc.1 k h7 h8, fun j h7 h8 => by rw [hk9 76 (by decide)]; exact hk.sc.2.1 j h7 h8, by rw [hk9 93 (by decide)]; exact hk.sc.2.2⟩
    · have hw0 : w = 0 := by omega
      have h93 : ν 93 0 = 0 := by rw [hk.1.1 93 (by decide) (by decide)]; exact hM.2.1.2.2.2
      refine g_aload_n hX dX7_casts_112 rfl ?_
      refine g_v0I hX lk_X7_126 dX7_casts_113 (c0 := 7) ok76 ⟨_, rfl, rfl⟩ (c_mfew hI ak h93) (by first | decide | omega) (by decide) rfl (Nat.le_of_ble_eq_true rfl) (fun z μ' hp => ?_)
      obtain ⟨⟨x, hx, hlc⟩, hk9, hz0⟩ := hp
      rw [hx]
      refine g_goto (tgt := 123) hX dX7_casts_116 (by decide) ?_
      have hrange : ∀ i, i < C → 0 ≤ szM ν i ∧ szM ν i ≤ 304 := fun i hi => by have := ak.2.2 i hi; omega
      have hplr : ∀ i, i < C → 0 ≤ plM ν i ∧ plM ν i ≤ 7 := fun i hi => by have := ak.2.2 i hi; omega
      obtain ⟨n, hn⟩ := nch (P := fun p n => Lst (LIS (szM ν) (plM ν) (fun _ => true) (p : Int) C) n) (fun p hp => Lst_ex (fun y hy => by
        obtain ⟨i, hi, -, -, rfl⟩ := LIS_mem C hy
        exact hrange i hi))
      have hxs := LC_sum hrange hplr hn hlc
      refine g_iret hX hR dX7_casts_123 ⟨_, rfl, Or.inl ⟨guard, Or.inl ⟨hw0, n, fun p hp => ?_, by rw [hxs]⟩⟩, hk.kx.tr (fun k hk1 => hk9 k (by omega)), ?_⟩
      · have := hn p hp
        rw [hC, hLp p] at this
        exact this
      · exact ⟨fun k h7 h8 => by rw [hk9 k (by omega)]; exact hk.sc.1 k h7 h8, fun j h7 h8 => by rw [hk9 76 (by decide)]; exact hk.sc.2.1 j h7 h8, by rw [hz0]; exact hM.2.1.2.2.2.symm⟩
  have loop : ∀ (e d : Nat) (ν : Mem) (C : Nat), d + e = s + 1 - g → C = cntD (vw μ) g d → CK μ ν N g d → G V E ν 44 [some (vr V 76), some (vi (g : Int)), some (vi (s : Int)), some (vi w), some (vi (C : Int)), some (vi ((g + d : Nat) : Int))] [] := by
    intro e
    induction e with
    | zero =>
      intro d ν C hd hC hk
      have e : d = s + 1 - g := by omega
      refine g_iload hX dX7_casts_44 rfl ?_
      refine g_iload_n hX dX7_casts_46 rfl ?_
      refine g_icmp_gt (tgt := 99) hX dX7_casts_47 (by decide) ⟨by omega, by omega⟩ ⟨by omega, by omega⟩ (fun _ => ?_) (fun hc => absurd hc (by omega))
      exact fin ν C _ (by rw [← e]; exact hC) (by rw [← e]; exact hk)
    | succ e ih =>
      intro d ν C hd hC hk
      have hle := cntD_le (vw μ) g d
      have hmp := IM_p hM (i := g + d) (by omega)
      have e81 : ν 81 (g + d) = vw μ 5 (g + d) := by rw [hk.1.1 81 (by decide) (by decide)]; rfl
      refine g_iload hX dX7_casts_44 rfl ?_
      refine g_iload_n hX dX7_casts_46 rfl ?_
      refine g_icmp_gt (tgt := 99) hX dX7_casts_47 (by decide) ⟨by omega, by omega⟩ ⟨by omega, by omega⟩ (fun hc => absurd hc (by omega)) (fun _ => ?_)
      refine g_aload_n hX dX7_casts_50 rfl ?_
      refine gf_X7_22 hX dX7_casts_51 ?_
      refine g_iload hX dX7_casts_54 rfl ?_
      refine g_ialdN (i := g + d) hX dX7_casts_56 (N := 40) rfl (by omega) (by omega) (by decide) ?_
      rw [e81]
      refine g_if_ne (tgt := 93) hX dX7_casts_57 (by decide) ⟨by omega, by omega⟩ (fun h0 => ?_) (fun h0 => ?_)
      · refine st_iinc_6_5 hX dX7_casts_93 (by first | exact ck_i _ | exact ck_r _ _ | exact ck_n | exact ck_0) ?_
        refine g_goto (tgt := 44) hX dX7_casts_96 (by decide) ?_
        obtain ⟨h5, h6⟩ := CK_skip hk h0
        have := ih (d + 1) ν C (by omega) (by rw [h5]; exact hC) h6
        rw [show ((g + (d + 1) : Nat) : Int) = ((g + d : Nat) : Int) + 1 by omega] at this
        exact this
      · by_cases hc12 : cntD (vw μ) g d < 12
        · have hA := hk.2.1 (by omega)
          refine g_aload_n hX dX7_casts_60 rfl ?_
          refine gf_X7_120 hX dX7_casts_61 ?_
          refine g_bipush hX dX7_casts_64 rfl ?_
          rw [hA]
          refine g_icmp_ge (tgt := 90) hX dX7_casts_66 (by decide) ⟨by omega, by omega⟩ ⟨by omega, by omega⟩ (fun hc => absurd hc (by omega)) (fun _ => ?_)
          refine g_aload_n hX dX7_casts_69 rfl ?_
          refine gf_X7_60 hX dX7_casts_70 ?_
          refine g_aload_n hX dX7_casts_73 rfl ?_
          refine gf_X7_120 hX dX7_casts_74 ?_
          rw [hA]
          obtain ⟨h5, h6⟩ := CK_put hk h0 hc12 (by omega)
          refine g_iload hX dX7_casts_77 rfl ?_
          refine g_iastN (i := cntD (vw μ) g d) hX dX7_casts_79 (N := 12) rfl (by omega) (by omega) (by decide) ?_
          refine g_aload_n hX dX7_casts_80 rfl ?_
          refine g_dup hX dX7_casts_81 rfl ?_
          refine gf_X7_120 hX dX7_casts_82 ?_
          rw [mset_ne (Or.inl (by decide)), hA]
          refine g_iconst hX dX7_casts_85 ?_
          refine g_iadd hX dX7_casts_86 ?_
          refine pf_X7_120 hX dX7_casts_87 ?_
          refine st_iinc_6_4 hX dX7_casts_90 (by first | exact ck_i _ | exact ck_r _ _ | exact ck_n | exact ck_0) ?_
          refine st_iinc_6_5 hX dX7_casts_93 (by first | exact ck_i _ | exact ck_r _ _ | exact ck_n | exact ck_0) ?_
          refine g_goto (tgt := 44) hX dX7_casts_96 (by decide) ?_
          have := ih (d + 1) _ (C + 1) (by omega) (by rw [h5]; omega) h6
          rw [show ((g + (d + 1) : Nat) : Int) = ((g + d : Nat) : Int) + 1 by omega, show ((C + 1 : Nat) : Int) = (C : Int) + 1 from rfl] at this
          exact this
        · have hA : ν 76 21 = 12 := by
            by_cases e : cntD (vw μ) g d = 12
            · rw [hk.2.1 (by omega), e]; rfl
            · exact hk.2.2.1 (by omega)
          obtain ⟨h5, h6⟩ := CK_full hk h0 (by omega)
          refine g_aload_n hX dX7_casts_60 rfl ?_
          refine gf_X7_120 hX dX7_casts_61 ?_
          refine g_bipush hX dX7_casts_64 rfl ?_
          rw [hA]
          refine g_icmp_ge (tgt := 90) hX dX7_casts_66 (by decide) ⟨by omega, by omega⟩ ⟨by omega, by omega⟩ (fun _ => ?_) (fun hc => absurd hc (by omega))
          refine st_iinc_6_4 hX dX7_casts_90 (by first | exact ck_i _ | exact ck_r _ _ | exact ck_n | exact ck_0) ?_
          refine st_iinc_6_5 hX dX7_casts_93 (by first | exact ck_i _ | exact ck_r _ _ | exact ck_n | exact ck_0) ?_
          refine g_goto (tgt := 44) hX dX7_casts_96 (by decide) ?_
          have := ih (d + 1) ν (C + 1) (by omega) (by rw [h5]; omega) h6
          rw [show ((g + (d + 1) : Nat) : Int) = ((g + d : Nat) : Int) + 1 by omega, show ((C + 1 : Nat) : Int) = (C : Int) + 1 from rfl] at this
          exact this
  refine g_aload_n hX dX7_casts_33 rfl ?_
  refine g_iconst hX dX7_casts_34 ?_
  refine pf_X7_120 hX dX7_casts_35 ?_
  refine g_iconst hX dX7_casts_38 ?_
  refine st_istore_6_4 hX dX7_casts_39 (by first | exact ck_i _ | exact ck_r _ _ | exact ck_n | exact ck_0) ?_
  refine g_iload_n hX dX7_casts_41 rfl ?_
  refine st_istore_6_5 hX dX7_casts_42 (by first | exact ck_i _ | exact ck_r _ _ | exact ck_n | exact ck_0) ?_
  refine loop (s + 1 - g) 0 _ 0 (by omega) rfl ⟨⟨fun k hk1 hk2 => mset_cell (fun q => hk2 q.symm), fun j hj => mset_ne (Or.inr hj)⟩, fun _ => mset_same, fun h => absurd h (by unfold cntD; omega), fun k _ h => absurd h (by unfold cntD; omega), fun _ p => rfl⟩
theorem nsum_cg {n n' : Nat → Nat} : ∀ k, (∀ p, p < k → n p = n' p) → nsum n k = nsum n' k := by
  intro k
  induction k with
  | zero => intro _; rfl
  | succ k ih => intro h; show nsum n k + n k = nsum n' k + n' k; rw [ih (fun p hp => h p (by omega)), h k (by omega)]
theorem ansC_u {m : Mem} {f t w z z' : Int} (h : ansC m f t w z) (h' : ansC m f t w z') : z = z' := by
  rcases h with ⟨hg, h⟩ | ⟨hg, h⟩ <;> rcases h' with ⟨hg', h'⟩ | ⟨hg', h'⟩
  · rcases h with ⟨hw, n, hn, hz⟩ | ⟨hw, n, hn, hz⟩ <;> rcases h' with ⟨hw', n', hn', hz'⟩ | ⟨hw', n', hn', hz'⟩
    · rw [hz, hz', nsum_cg 8 (fun p hp => Lst_u (hn p hp) (hn' p hp))]
    · omega
    · omega
    · rw [hz, hz', nsum_cg (n := n) (n' := n') 8 (fun p hp => by
        obtain ⟨S, h1, h2, h3⟩ := hn p hp
        obtain ⟨S', h1', h2', h3'⟩ := hn' p hp
        rw [h3, h3', Srt_perm (h1.trans h1'.symm) h2 h2'])]
  · exact absurd hg hg'
  · exact absurd hg' hg
  · rw [h, h']
