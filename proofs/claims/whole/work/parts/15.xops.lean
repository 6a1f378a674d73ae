/-! the class's calls: told, at, bed, count, lorry, stack, go -/
def spTold (m : Mem) (p w : Int) : Int × Mem := if (0 ≤ p ∧ p < m 0 0) ∧ 0 ≤ w ∧ w ≤ 7 then (m (1 + w.toNat) p.toNat, m) else (-1, m)
def spAt (m : Mem) (s i : Int) : Int × Mem := if (0 ≤ s ∧ s < 5) ∧ 0 ≤ i then (if i < m 13 s.toNat then m 14 (4 * s.toNat + i.toNat) else -4, m) else (-1, m)
def spBed (m : Mem) (b w : Int) : Int × Mem := if (0 ≤ b ∧ b < 3) ∧ 0 ≤ w ∧ w ≤ 3 then (if w = 0 then m 9 b.toNat else if w = 1 then bedlen m b.toNat else if w = 2 then m 11 b.toNat else if m 9 b.toNat = 0 then 0 else m 0 14 - m 12 b.toNat, m) else (-1, m)
def spCount (m : Mem) (w : Int) : Int × Mem := if 0 ≤ w ∧ w ≤ 10 then (if w = 0 then m 0 0 else if w = 1 then m 0 14 else if w = 2 then m 0 19 else if w = 3 then m 0 20 else (cntW m (w - 4) (m 0 0).toNat : Int), m) else (-1, m)
def rightZ (m : Mem) : Nat → Int
  | 0 => 1
  | 1 => 1
  | k + 2 => if m 4 (m 15 (k + 1)).toNat ≤ m 4 (m 15 k).toNat then rightZ m (k + 1) else 0
def spLorry (m : Mem) (w : Int) : Int × Mem := (if w = 0 then m 0 17 else if w = 1 then heavyK m (m 0 17).toNat else if w = 2 then frontK m (m 0 17).toNat else if w = 3 then rearK m (m 0 17).toNat else if w = 4 then rightZ m (m 0 17).toNat else -1, m)
def layM (m : Mem) (p s h : Nat) : Mem := mset (mset (mset (mset m 14 (4 * s + h) p) 13 s ((h : Int) + 1)) 5 p 3) 6 p (s : Int)
def spStack (m : Mem) (p s : Int) : Int × Mem := if (0 ≤ p ∧ p < m 0 0) ∧ 0 ≤ s ∧ s < 5 then (if m 5 p.toNat = 2 then (if m 13 s.toNat < 4 then (m 13 s.toNat + 1, layM m p.toNat s.toNat (m 13 s.toNat).toNat) else (-3, m)) else (-2, m)) else (-1, m)
def goK (m : Mem) : Nat → Mem
  | 0 => m
  | k + 1 => mset (mset (goK m k) 5 (m 15 k).toNat 4) 6 (m 15 k).toNat (m 0 19)
def spGo (m : Mem) : Int × Mem := if m 0 17 = 0 then (-2, m) else (m 0 17, mset (mset (goK m (m 0 17).toNat) 0 17 0) 0 19 (m 0 19 + 1))
theorem goK_ne (m : Mem) {c j : Nat} (h5 : c ≠ 5) (h6 : c ≠ 6) : ∀ k, goK m k c j = m c j := by
  intro k
  induction k with
  | zero => rfl
  | succ k ih => unfold goK; rw [mset_ne (Or.inl h6), mset_ne (Or.inl h5)]; exact ih
theorem rightZ_01 (m : Mem) : ∀ k, rightZ m k = 0 ∨ rightZ m k = 1 := by
  intro k
  induction k using Nat.strongRecOn with
  | _ k ih =>
    match k with
    | 0 => exact Or.inr rfl
    | 1 => exact Or.inr rfl
    | k + 2 =>
      unfold rightZ
      split
      · exact ih (k + 1) (by omega)
      · exact Or.inl rfl
theorem rightZ_0 (m : Mem) : ∀ L k : Nat, k + 1 < L → ¬ m 4 (m 15 (k + 1)).toNat ≤ m 4 (m 15 k).toNat → rightZ m L = 0 := by
  intro L
  induction L with
  | zero => intro k hk; omega
  | succ L ih =>
    intro k hk hn
    match L, ih with
    | 0, _ => omega
    | L + 1, ih =>
      unfold rightZ
      by_cases h : m 4 (m 15 (L + 1)).toNat ≤ m 4 (m 15 L).toNat
      · rw [if_pos h]
        by_cases hkl : k = L
        · subst hkl; exact absurd h hn
        · exact ih k (by omega) hn
      · rw [if_neg h]
theorem rightZ_1 (m : Mem) : ∀ L : Nat, (∀ k, k + 1 < L → m 4 (m 15 (k + 1)).toNat ≤ m 4 (m 15 k).toNat) → rightZ m L = 1 := by
  intro L
  induction L with
  | zero => intro _; rfl
  | succ L ih =>
    intro h
    match L, ih with
    | 0, _ => rfl
    | L + 1, ih =>
      unfold rightZ
      rw [if_pos (h L (by omega))]
      exact ih (fun k hk => h k (by omega))
theorem cntX_W {ν m : Mem} (hR : RelXM ν m) (w : Int) : ∀ n : Nat, (n : Int) ≤ m 0 0 → n ≤ 40 → cntX ν w n = cntW m w n := by
  intro n
  induction n with
  | zero => intro _ _; rfl
  | succ n ih =>
    intro h h40
    unfold cntX cntW
    rw [ih (by omega) (by omega), rel_p (j := 4) hR (by omega) (by omega) (by decide)]
theorem IM_p {m : Mem} {c : Nat} (hM : IM c m) {i : Nat} (hi : (i : Int) < m 0 0) : (1 ≤ m 1 i ∧ m 1 i ≤ 200) ∧ (0 ≤ m 2 i ∧ m 2 i ≤ 7) ∧ (1 ≤ m 3 i ∧ m 3 i ≤ 100) ∧ (0 ≤ m 4 i ∧ m 4 i ≤ 1000) ∧ (0 ≤ m 5 i ∧ m 5 i ≤ 6) ∧ (-4 ≤ m 6 i ∧ m 6 i ≤ (c : Int) + 5) ∧ (m 8 i = 0 ∨ m 8 i = 1) := hM.1.2.1 i hi
set_option maxHeartbeats 4000000 in
theorem x_told {lnch : Launch} {V : VX} (hI : InjV V) {μ : Mem} {m : Mem} {c : Nat} {p w : Int} (hR0 : RelXM μ m) (hM : IM c m) (hp : in32 p) (hw : in32 w) : Ct lnch yX6_told cX6_told 4 (some .int) 2 V [vr V 63, vi p, vi w] μ (pI (XP μ (spTold m p w))) := by
  refine Ct_of (by decide) hI (Nat.le_of_ble_eq_true rfl) (fun E hE hX hR => ?_)
  have hX : OkX V E RX6 cX6_told 4 2 := hX
  show G V E μ 0 [some (vr V 63), some (vi p), some (vi w), none] []
  obtain ⟨N, hN40, hmN, hN⟩ := rel_n hR0 hM
  unfold spTold at hR
  obtain ⟨hw1, hw2⟩ := hw
  refine g_aload_n hX dX6_told_0 rfl ?_
  refine g_iload_n hX dX6_told_1 rfl ?_
  refine g_v1R hX lk_X6_66 dX6_told_2 (c0 := 6) ok63 ⟨_, rfl, rfl⟩ (c_partOf hI hN hN40 hp) (by first | decide | omega) (by decide) rfl (Nat.le_of_ble_eq_true rfl) (fun r μ' hp => ?_)
  obtain ⟨rfl, hm⟩ := hp
  rw [hm]
  clear hm μ'
  by_cases h1 : 0 ≤ p ∧ p < (N : Int)
  · rw [if_pos h1]
    have hr : ∀ j, j < 8 → μ p.toNat j = m (1 + j) p.toNat := fun j hj => rel_p hR0 (by omega) (by omega) hj
    have hmp := IM_p hM (i := p.toNat) (by omega)
    show G V E μ 5 _ (vr V p.toNat :: [])
    refine st_astore_n_4_3 hX dX6_told_5 (by first | exact ck_i _ | exact ck_r _ _ | exact ck_n | exact ck_0) ?_
    refine g_aload_n hX dX6_told_6 rfl ?_
    refine g_ifnonnull (tgt := 12) hX dX6_told_7 (by decide) ?_
    refine g_iload_n hX dX6_told_12 rfl ?_
    have hcs : w = 0 ∨ w = 1 ∨ w = 2 ∨ w = 3 ∨ w = 4 ∨ w = 5 ∨ w = 6 ∨ w = 7 ∨ (w < 0 ∨ 7 < w) := by omega
    rcases hcs with rfl | rfl | rfl | rfl | rfl | rfl | rfl | rfl | hcs
    · rw [if_pos (by omega)] at hR
      refine g_tin (tgt := 60) hX dX6_told_13 ⟨by decide, by decide⟩ (by decide) (by decide) rfl (by decide) ?_
      refine g_aload_n hX dX6_told_60 rfl ?_
      refine gf_X6_108 hX dX6_told_61 (by first | assumption | exact okd_part (by omega) | exact okd_bed (by omega) | exact okd_pile (by omega) | exact okd_dpile (by omega)) ?_
      refine g_iret hX hR dX6_told_64 ⟨_, rfl, hr 0 (by decide), hR0, rfl⟩
    · rw [if_pos (by omega)] at hR
      refine g_tin (tgt := 65) hX dX6_told_13 ⟨by decide, by decide⟩ (by decide) (by decide) rfl (by decide) ?_
      refine g_aload_n hX dX6_told_65 rfl ?_
      refine gf_X6_230 hX dX6_told_66 (by first | assumption | exact okd_part (by omega) | exact okd_bed (by omega) | exact okd_pile (by omega) | exact okd_dpile (by omega)) ?_
      refine g_iret hX hR dX6_told_69 ⟨_, rfl, hr 1 (by decide), hR0, rfl⟩
    · rw [if_pos (by omega)] at hR
      refine g_tin (tgt := 70) hX dX6_told_13 ⟨by decide, by decide⟩ (by decide) (by decide) rfl (by decide) ?_
      refine g_aload_n hX dX6_told_70 rfl ?_
      refine gf_X6_204 hX dX6_told_71 (by first | assumption | exact okd_part (by omega) | exact okd_bed (by omega) | exact okd_pile (by omega) | exact okd_dpile (by omega)) ?_
      refine g_iret hX hR dX6_told_74 ⟨_, rfl, hr 2 (by decide), hR0, rfl⟩
    · rw [if_pos (by omega)] at hR
      refine g_tin (tgt := 75) hX dX6_told_13 ⟨by decide, by decide⟩ (by decide) (by decide) rfl (by decide) ?_
      refine g_aload_n hX dX6_told_75 rfl ?_
      refine gf_X6_70 hX dX6_told_76 (by first | assumption | exact okd_part (by omega) | exact okd_bed (by omega) | exact okd_pile (by omega) | exact okd_dpile (by omega)) ?_
      refine g_iret hX hR dX6_told_79 ⟨_, rfl, hr 3 (by decide), hR0, rfl⟩
    · rw [if_pos (by omega)] at hR
      refine g_tin (tgt := 80) hX dX6_told_13 ⟨by decide, by decide⟩ (by decide) (by decide) rfl (by decide) ?_
      refine g_aload_n hX dX6_told_80 rfl ?_
      refine gf_X6_133 hX dX6_told_81 (by first | assumption | exact okd_part (by omega) | exact okd_bed (by omega) | exact okd_pile (by omega) | exact okd_dpile (by omega)) ?_
      refine g_iret hX hR dX6_told_84 ⟨_, rfl, hr 4 (by decide), hR0, rfl⟩
    · rw [if_pos (by omega)] at hR
      refine g_tin (tgt := 85) hX dX6_told_13 ⟨by decide, by decide⟩ (by decide) (by decide) rfl (by decide) ?_
      refine g_aload_n hX dX6_told_85 rfl ?_
      refine gf_X6_136 hX dX6_told_86 (by first | assumption | exact okd_part (by omega) | exact okd_bed (by omega) | exact okd_pile (by omega) | exact okd_dpile (by omega)) ?_
      refine g_iret hX hR dX6_told_89 ⟨_, rfl, hr 5 (by decide), hR0, rfl⟩
    · rw [if_pos (by omega)] at hR
      refine g_tin (tgt := 90) hX dX6_told_13 ⟨by decide, by decide⟩ (by decide) (by decide) rfl (by decide) ?_
      refine g_aload_n hX dX6_told_90 rfl ?_
      refine gf_X6_143 hX dX6_told_91 (by first | assumption | exact okd_part (by omega) | exact okd_bed (by omega) | exact okd_pile (by omega) | exact okd_dpile (by omega)) ?_
      refine g_iret hX hR dX6_told_94 ⟨_, rfl, hr 6 (by decide), hR0, rfl⟩
    · rw [if_pos (by omega)] at hR
      have h7 := hr 7 (by decide)
      have hd : m 8 p.toNat = 0 ∨ m 8 p.toNat = 1 := hmp.2.2.2.2.2.2
      refine g_tin (tgt := 95) hX dX6_told_13 ⟨by decide, by decide⟩ (by decide) (by decide) rfl (by decide) ?_
      refine g_aload_n hX dX6_told_95 rfl ?_
      refine gf_X6_146 hX dX6_told_96 (by first | assumption | exact okd_part (by omega) | exact okd_bed (by omega) | exact okd_pile (by omega) | exact okd_dpile (by omega)) ?_
      rw [h7]
      show G V E μ 99 _ (vi (m 8 p.toNat) :: [])
      refine g_if_eq (tgt := 106) hX dX6_told_99 (by decide) ⟨by omega, by omega⟩ (fun h8 => ?_) (fun h8 => ?_)
      · refine g_iconst hX dX6_told_106 ?_
        refine g_iret hX hR dX6_told_107 ⟨_, rfl, h8.symm, hR0, rfl⟩
      · refine g_iconst hX dX6_told_102 ?_
        refine g_goto (tgt := 107) hX dX6_told_103 (by decide) ?_
        refine g_iret hX hR dX6_told_107 ⟨_, rfl, (show (1 : Int) = m 8 p.toNat by omega), hR0, rfl⟩
    · rw [if_neg (by omega)] at hR
      refine g_tout (tgt := 108) hX dX6_told_13 ⟨by omega, by omega⟩ (by omega) (by decide) ?_
      refine g_iconst hX dX6_told_108 ?_
      refine g_iret hX hR dX6_told_109 ⟨_, rfl, rfl, hR0, rfl⟩
  · rw [if_neg h1]
    rw [if_neg (by omega)] at hR
    show G V E μ 5 _ (Value.null :: [])
    refine st_astore_nN_4_3 hX dX6_told_5 (by first | exact ck_i _ | exact ck_r _ _ | exact ck_n | exact ck_0) ?_
    refine g_aload_nN hX dX6_told_6 rfl ?_
    refine g_ifnonnullN hX dX6_told_7 ?_
    refine g_iconst hX dX6_told_10 ?_
    refine g_iret hX hR dX6_told_11 ⟨_, rfl, rfl, hR0, rfl⟩
set_option maxHeartbeats 4000000 in
theorem x_at {lnch : Launch} {V : VX} (hI : InjV V) {μ : Mem} {m : Mem} {c : Nat} {s i : Int} (hR0 : RelXM μ m) (hM : IM c m) (hs : in32 s) (hi : in32 i) : Ct lnch yX6_at cX6_at 4 (some .int) 2 V [vr V 63, vi s, vi i] μ (pI (XP μ (spAt m s i))) := by
  refine Ct_of (by decide) hI (Nat.le_of_ble_eq_true rfl) (fun E hE hX hR => ?_)
  have hX : OkX V E RX6 cX6_at 4 2 := hX
  show G V E μ 0 [some (vr V 63), some (vi s), some (vi i), none] []
  unfold spAt at hR
  obtain ⟨hi1, hi2⟩ := hi
  refine g_aload_n hX dX6_at_0 rfl ?_
  refine g_iload_n hX dX6_at_1 rfl ?_
  refine g_v1R hX lk_X6_156 dX6_at_2 (c0 := 6) ok63 ⟨_, rfl, rfl⟩ (c_stackOf hI hs) (by first | decide | omega) (by decide) rfl (Nat.le_of_ble_eq_true rfl) (fun r μ' hp => ?_)
  obtain ⟨rfl, hm⟩ := hp
  rw [hm]
  clear hm μ'
  by_cases h1 : 0 ≤ s ∧ s < 5
  · rw [if_pos h1]
    have hy := (hM.2.2.2.1.1 s.toNat (by omega)).1
    have hd := hR0.2.2.2.1 s.toNat (by omega)
    show G V E μ 5 _ (vr V (43 + s.toNat) :: [])
    refine st_astore_n_4_3 hX dX6_at_5 (by first | exact ck_i _ | exact ck_r _ _ | exact ck_n | exact ck_0) ?_
    refine g_aload_n hX dX6_at_6 rfl ?_
    refine g_ifnull hX dX6_at_7 ?_
    refine g_iload_n hX dX6_at_10 rfl ?_
    refine g_if_ge (tgt := 18) hX dX6_at_11 (by decide) ⟨by omega, by omega⟩ (fun h2 => ?_) (fun h2 => ?_)
    · rw [if_pos (by omega)] at hR
      refine g_aload_n hX dX6_at_18 rfl ?_
      refine g_iload_n hX dX6_at_19 rfl ?_
      refine g_v1I hX lk_X6_240 dX6_at_20 (c0 := 5) (by first | assumption | exact okd_part (by omega) | exact okd_bed (by omega) | exact okd_pile (by omega) | exact okd_dpile (by omega)) ⟨_, rfl, rfl⟩ (c_from (h := (m 13 s.toNat).toNat) hI (okd_pile (by omega)) (by rw [hd.1]; omega) (by omega) ⟨by omega, by omega⟩) (by first | decide | omega) (by decide) rfl (Nat.le_of_ble_eq_true rfl) (fun z μ' hp => ?_)
      obtain ⟨rfl, hm⟩ := hp
      rw [hm]
      clear hm μ'
      refine g_iret hX hR dX6_at_23 ⟨_, rfl, ?_, hR0, rfl⟩
      by_cases h3 : i < m 13 s.toNat
      · rw [if_pos (by omega), if_pos h3, show 43 + s.toNat + 5 = 48 + s.toNat by omega]
        exact hd.2 i.toNat (by omega)
      · rw [if_neg (by omega), if_neg h3]
    · rw [if_neg (by omega)] at hR
      refine g_iconst hX dX6_at_14 ?_
      refine g_goto (tgt := 23) hX dX6_at_15 (by decide) ?_
      refine g_iret hX hR dX6_at_23 ⟨_, rfl, rfl, hR0, rfl⟩
  · rw [if_neg h1]
    rw [if_neg (by omega)] at hR
    show G V E μ 5 _ (Value.null :: [])
    refine st_astore_nN_4_3 hX dX6_at_5 (by first | exact ck_i _ | exact ck_r _ _ | exact ck_n | exact ck_0) ?_
    refine g_aload_nN hX dX6_at_6 rfl ?_
    refine g_ifnullN (tgt := 14) hX dX6_at_7 (by decide) ?_
    refine g_iconst hX dX6_at_14 ?_
    refine g_goto (tgt := 23) hX dX6_at_15 (by decide) ?_
    refine g_iret hX hR dX6_at_23 ⟨_, rfl, rfl, hR0, rfl⟩
set_option maxHeartbeats 4000000 in
theorem x_bed {lnch : Launch} {V : VX} (hI : InjV V) {μ : Mem} {m : Mem} {c : Nat} {b w : Int} (hR0 : RelXM μ m) (hM : IM c m) (hb : in32 b) (hw : in32 w) : Ct lnch yX6_bed cX6_bed 4 (some .int) 2 V [vr V 63, vi b, vi w] μ (pI (XP μ (spBed m b w))) := by
  refine Ct_of (by decide) hI (Nat.le_of_ble_eq_true rfl) (fun E hE hX hR => ?_)
  have hX : OkX V E RX6 cX6_bed 4 2 := hX
  show G V E μ 0 [some (vr V 63), some (vi b), some (vi w), none] []
  unfold spBed at hR
  obtain ⟨hw1, hw2⟩ := hw
  refine g_aload_n hX dX6_bed_0 rfl ?_
  refine g_iload_n hX dX6_bed_1 rfl ?_
  refine g_v1R hX lk_X6_88 dX6_bed_2 (c0 := 6) ok63 ⟨_, rfl, rfl⟩ (c_bedOf hI hb) (by first | decide | omega) (by decide) rfl (Nat.le_of_ble_eq_true rfl) (fun r μ' hp => ?_)
  obtain ⟨rfl, hm⟩ := hp
  rw [hm]
  clear hm μ'
  by_cases h1 : 0 ≤ b ∧ b < 3
  · rw [if_pos h1]
    have hy := hM.2.2.1 b.toNat (by omega)
    have hd := hR0.2.2.1 b.toNat (by omega)
    show G V E μ 5 _ (vr V (40 + b.toNat) :: [])
    refine st_astore_n_4_3 hX dX6_bed_5 (by first | exact ck_i _ | exact ck_r _ _ | exact ck_n | exact ck_0) ?_
    refine g_aload_n hX dX6_bed_6 rfl ?_
    refine g_ifnonnull (tgt := 12) hX dX6_bed_7 (by decide) ?_
    refine g_iload_n hX dX6_bed_12 rfl ?_
    have hcs : w = 0 ∨ w = 1 ∨ w = 2 ∨ w = 3 ∨ (w < 0 ∨ 3 < w) := by omega
    rcases hcs with rfl | rfl | rfl | rfl | hcs
    · rw [if_pos (by omega)] at hR
      refine g_tin (tgt := 44) hX dX6_bed_13 ⟨by decide, by decide⟩ (by decide) (by decide) rfl (by decide) ?_
      refine g_aload_n hX dX6_bed_44 rfl ?_
      refine gf_X6_96 hX dX6_bed_45 (by first | assumption | exact okd_part (by omega) | exact okd_bed (by omega) | exact okd_pile (by omega) | exact okd_dpile (by omega)) ?_
      refine g_iret hX hR dX6_bed_48 ⟨_, rfl, hd.1, hR0, rfl⟩
    · rw [if_pos (by omega)] at hR
      refine g_tin (tgt := 49) hX dX6_bed_13 ⟨by decide, by decide⟩ (by decide) (by decide) rfl (by decide) ?_
      refine g_aload_n hX dX6_bed_49 rfl ?_
      refine gf_X6_243 hX dX6_bed_50 (by first | assumption | exact okd_part (by omega) | exact okd_bed (by omega) | exact okd_pile (by omega) | exact okd_dpile (by omega)) ?_
      refine g_iret hX hR dX6_bed_53 ⟨_, rfl, hd.2.1, hR0, rfl⟩
    · rw [if_pos (by omega)] at hR
      refine g_tin (tgt := 54) hX dX6_bed_13 ⟨by decide, by decide⟩ (by decide) (by decide) rfl (by decide) ?_
      refine g_aload_n hX dX6_bed_54 rfl ?_
      refine gf_X6_127 hX dX6_bed_55 (by first | assumption | exact okd_part (by omega) | exact okd_bed (by omega) | exact okd_pile (by omega) | exact okd_dpile (by omega)) ?_
      refine g_iret hX hR dX6_bed_58 ⟨_, rfl, hd.2.2.1, hR0, rfl⟩
    · rw [if_pos (by omega)] at hR
      refine g_tin (tgt := 59) hX dX6_bed_13 ⟨by decide, by decide⟩ (by decide) (by decide) rfl (by decide) ?_
      refine g_aload_n hX dX6_bed_59 rfl ?_
      refine gf_X6_96 hX dX6_bed_60 (by first | assumption | exact okd_part (by omega) | exact okd_bed (by omega) | exact okd_pile (by omega) | exact okd_dpile (by omega)) ?_
      rw [hd.1]
      refine g_if_ne (tgt := 70) hX dX6_bed_63 (by decide) ⟨by omega, by omega⟩ (fun h2 => ?_) (fun h2 => ?_)
      · refine g_aload_n hX dX6_bed_70 rfl ?_
        refine gf_X6_111 hX dX6_bed_71 ?_
        refine g_aload_n hX dX6_bed_74 rfl ?_
        refine gf_X6_130 hX dX6_bed_75 (by first | assumption | exact okd_part (by omega) | exact okd_bed (by omega) | exact okd_pile (by omega) | exact okd_dpile (by omega)) ?_
        refine g_isub hX dX6_bed_78 ?_
        refine g_iret hX hR dX6_bed_79 ⟨_, rfl, ?_, hR0, rfl⟩
        rw [hR0.1.2.2.2.1, hd.2.2.2]
        show _ = if m 9 b.toNat = 0 then 0 else m 0 14 - m 12 b.toNat
        rw [if_neg h2]
      · refine g_iconst hX dX6_bed_66 ?_
        refine g_goto (tgt := 79) hX dX6_bed_67 (by decide) ?_
        refine g_iret hX hR dX6_bed_79 ⟨_, rfl, ?_, hR0, rfl⟩
        show _ = if m 9 b.toNat = 0 then 0 else m 0 14 - m 12 b.toNat
        rw [if_pos h2]
    · rw [if_neg (by omega)] at hR
      refine g_tout (tgt := 80) hX dX6_bed_13 ⟨by omega, by omega⟩ (by omega) (by decide) ?_
      refine g_iconst hX dX6_bed_80 ?_
      refine g_iret hX hR dX6_bed_81 ⟨_, rfl, rfl, hR0, rfl⟩
  · rw [if_neg h1]
    rw [if_neg (by omega)] at hR
    show G V E μ 5 _ (Value.null :: [])
    refine st_astore_nN_4_3 hX dX6_bed_5 (by first | exact ck_i _ | exact ck_r _ _ | exact ck_n | exact ck_0) ?_
    refine g_aload_nN hX dX6_bed_6 rfl ?_
    refine g_ifnonnullN hX dX6_bed_7 ?_
    refine g_iconst hX dX6_bed_10 ?_
    refine g_iret hX hR dX6_bed_11 ⟨_, rfl, rfl, hR0, rfl⟩
set_option maxHeartbeats 4000000 in
theorem x_count {lnch : Launch} {V : VX} (hI : InjV V) {μ : Mem} {m : Mem} {c : Nat} {w : Int} (hR0 : RelXM μ m) (hM : IM c m) (hw : in32 w) : Ct lnch yX6_count cX6_count 2 (some .int) 3 V [vr V 63, vi w] μ (pI (XP μ (spCount m w))) := by
  refine Ct_of (by decide) hI (Nat.le_of_ble_eq_true rfl) (fun E hE hX hR => ?_)
  have hX : OkX V E RX6 cX6_count 2 3 := hX
  show G V E μ 0 [some (vr V 63), some (vi w)] []
  unfold spCount at hR
  obtain ⟨hw1, hw2⟩ := hw
  obtain ⟨N, hN40, hmN, hN⟩ := rel_n hR0 hM
  refine g_iload_n hX dX6_count_0 rfl ?_
  have hcs : w = 0 ∨ w = 1 ∨ w = 2 ∨ w = 3 ∨ (w < 0 ∨ 3 < w) := by omega
  rcases hcs with rfl | rfl | rfl | rfl | hcs
  · rw [if_pos (by omega)] at hR
    refine g_tin (tgt := 32) hX dX6_count_1 ⟨by decide, by decide⟩ (by decide) (by decide) rfl (by decide) ?_
    refine g_aload_n hX dX6_count_32 rfl ?_
    refine gf_X6_59 hX dX6_count_33 ?_
    refine g_iret hX hR dX6_count_36 ⟨_, rfl, hR0.1.1, hR0, rfl⟩
  · rw [if_pos (by omega)] at hR
    refine g_tin (tgt := 37) hX dX6_count_1 ⟨by decide, by decide⟩ (by decide) (by decide) rfl (by decide) ?_
    refine g_aload_n hX dX6_count_37 rfl ?_
    refine gf_X6_111 hX dX6_count_38 ?_
    refine g_iret hX hR dX6_count_41 ⟨_, rfl, hR0.1.2.2.2.1, hR0, rfl⟩
  · rw [if_pos (by omega)] at hR
    refine g_tin (tgt := 42) hX dX6_count_1 ⟨by decide, by decide⟩ (by decide) (by decide) rfl (by decide) ?_
    refine g_aload_n hX dX6_count_42 rfl ?_
    refine gf_X6_216 hX dX6_count_43 ?_
    refine g_iret hX hR dX6_count_46 ⟨_, rfl, hR0.1.2.2.1, hR0, rfl⟩
  · rw [if_pos (by omega)] at hR
    refine g_tin (tgt := 47) hX dX6_count_1 ⟨by decide, by decide⟩ (by decide) (by decide) rfl (by decide) ?_
    refine g_aload_n hX dX6_count_47 rfl ?_
    refine gf_X6_117 hX dX6_count_48 ?_
    refine g_iret hX hR dX6_count_51 ⟨_, rfl, hR0.1.2.1, hR0, rfl⟩
  · refine g_tout (tgt := 52) hX dX6_count_1 ⟨by omega, by omega⟩ (by omega) (by decide) ?_
    refine g_iload_n hX dX6_count_52 rfl ?_
    refine g_iconst hX dX6_count_53 ?_
    refine g_icmp_lt (tgt := 73) hX dX6_count_54 (by decide) ⟨by omega, by omega⟩ ⟨by omega, by omega⟩ (fun h1 => ?_) (fun h1 => ?_)
    · rw [if_neg (by omega)] at hR
      refine g_iconst hX dX6_count_73 ?_
      refine g_iret hX hR dX6_count_74 ⟨_, rfl, rfl, hR0, rfl⟩
    refine g_iload_n hX dX6_count_57 rfl ?_
    refine g_bipush hX dX6_count_58 rfl ?_
    refine g_icmp_gt (tgt := 73) hX dX6_count_60 (by decide) ⟨by omega, by omega⟩ ⟨by omega, by omega⟩ (fun h2 => ?_) (fun h2 => ?_)
    · rw [if_neg (by omega)] at hR
      refine g_iconst hX dX6_count_73 ?_
      refine g_iret hX hR dX6_count_74 ⟨_, rfl, rfl, hR0, rfl⟩
    rw [if_pos (by omega), if_neg (by omega), if_neg (by omega), if_neg (by omega), if_neg (by omega)] at hR
    have hwh : ∀ i, i < N → in32 (μ i 4) := fun i hi => by
      have := IM_p hM (i := i) (by omega)
      rw [xf4 hR0 (by omega) (by omega)]
      exact ⟨by omega, by omega⟩
    refine g_aload_n hX dX6_count_63 rfl ?_
    refine g_iload_n hX dX6_count_64 rfl ?_
    refine g_iconst hX dX6_count_65 ?_
    refine g_isub hX dX6_count_66 ?_
    refine g_v1I hX lk_X6_190 dX6_count_67 (c0 := 6) ok63 ⟨_, rfl, rfl⟩ (c_countWhere hI hN hN40 ⟨by omega, by omega⟩ hwh) (by first | decide | omega) (by decide) rfl (Nat.le_of_ble_eq_true rfl) (fun z μ' hp => ?_)
    obtain ⟨rfl, hm⟩ := hp
    rw [hm]
    clear hm μ'
    refine g_goto (tgt := 74) hX dX6_count_70 (by decide) ?_
    refine g_iret hX hR dX6_count_74 ⟨_, rfl, ?_, hR0, rfl⟩
    rw [cntX_W hR0 _ N (by omega) hN40, show (m 0 0).toNat = N by omega]
set_option maxHeartbeats 4000000 in
theorem c_isRight {lnch : Launch} {V : VX} (hI : InjV V) {μ : Mem} {m : Mem} {c : Nat} (hR0 : RelXM μ m) (hM : IM c m) : Ct lnch yX6_isRight cX6_isRight 4 (some .boolean) 2 V [vr V 63] μ (pI (fun z μ' => z = rightZ m (m 0 17).toNat ∧ μ' = μ)) := by
  refine Ct_of (by decide) hI (Nat.le_of_ble_eq_true rfl) (fun E hE hX hR => ?_)
  have hX : OkX V E RX6 cX6_isRight 4 2 := hX
  show G V E μ 0 [some (vr V 63), none, none, none] []
  obtain ⟨N, hN40, hmN, hN⟩ := rel_n hR0 hM
  obtain ⟨hl1, hl2, -⟩ := hM.2.2.2.2
  obtain ⟨hE1, -, -, -, hE5⟩ := hR0.2.2.2.2
  obtain ⟨h, hh⟩ : ∃ h : Nat, m 0 17 = (h : Int) := ⟨(m 0 17).toNat, by omega⟩
  have ht : (m 0 17).toNat = h := by omega
  rw [hh] at hE1 hE5 hl1 hl2
  rw [ht] at hR
  have need : ∀ k : Nat, k < h → ∃ q : Nat, q < N ∧ m 15 k = (q : Int) ∧ μ q 3 = m 4 q ∧ 0 ≤ m 4 q ∧ m 4 q ≤ 1000 := fun k hk => by
    have h1 := hl2 k (by omega)
    refine ⟨(m 15 k).toNat, by omega, by omega, rel_p (j := 3) hR0 (by omega) (by omega) (by decide), ?_⟩
    have := IM_p hM (i := (m 15 k).toNat) (by omega)
    exact this.2.2.2.1
  have loop : ∀ (d p : Nat), p + d = h → 1 ≤ p → (∀ k, k + 1 < p → m 4 (m 15 (k + 1)).toNat ≤ m 4 (m 15 k).toNat) → G V E μ 2 [some (vr V 63), some (vi (p : Int)), none, none] [] := by
    intro d
    induction d with
    | zero =>
      intro p hp hp1 hk
      refine g_iload_n hX dX6_isRight_2 rfl ?_
      refine g_aload_n hX dX6_isRight_3 rfl ?_
      refine gf_X6_30 hX dX6_isRight_4 ?_
      refine gf_X6_212 hX dX6_isRight_7 ?_
      refine g_icmp_ge (tgt := 68) hX dX6_isRight_10 (by decide) ⟨by omega, by omega⟩ ⟨by omega, by omega⟩ (fun _ => ?_) (fun hc => absurd hc (by omega))
      refine g_iconst hX dX6_isRight_68 ?_
      refine g_zret hX hR dX6_isRight_69 (Or.inr rfl) ⟨_, rfl, (rightZ_1 m h (by rw [← hp]; exact hk)).symm, rfl⟩
    | succ d ih =>
      intro p hp hp1 hk
      obtain ⟨q1, hq1, e1, n1, r1⟩ := need (p - 1) (by omega)
      obtain ⟨q2, hq2, e2, n2, r2⟩ := need p (by omega)
      refine g_iload_n hX dX6_isRight_2 rfl ?_
      refine g_aload_n hX dX6_isRight_3 rfl ?_
      refine gf_X6_30 hX dX6_isRight_4 ?_
      refine gf_X6_212 hX dX6_isRight_7 ?_
      refine g_icmp_ge (tgt := 68) hX dX6_isRight_10 (by decide) ⟨by omega, by omega⟩ ⟨by omega, by omega⟩ (fun hc => absurd hc (by omega)) (fun _ => ?_)
      refine g_aload_n hX dX6_isRight_13 rfl ?_
      refine g_aload_n hX dX6_isRight_14 rfl ?_
      refine gf_X6_30 hX dX6_isRight_15 ?_
      refine g_iload_n hX dX6_isRight_18 rfl ?_
      refine g_iconst hX dX6_isRight_19 ?_
      refine g_isub hX dX6_isRight_20 ?_
      rw [show (p : Int) - 1 = ((p - 1 : Nat) : Int) by omega]
      refine g_v1I hX lk_X6_213 dX6_isRight_21 (c0 := 2) ok67 ⟨_, rfl, rfl⟩ (c_partOn (h := h) hI hE1 (by omega) (by omega)) (by first | decide | omega) (by decide) rfl (Nat.le_of_ble_eq_true rfl) (fun z μ' hp => ?_)
      obtain ⟨rfl, hm⟩ := hp
      rw [hm]
      clear hm μ'
      rw [hE5 (p - 1) (by omega), e1]
      refine g_v1R hX lk_X6_66 dX6_isRight_24 (c0 := 6) ok63 ⟨_, rfl, rfl⟩ (c_partOf hI hN hN40 ⟨by omega, by omega⟩) (by first | decide | omega) (by decide) rfl (Nat.le_of_ble_eq_true rfl) (fun r μ' hp => ?_)
      obtain ⟨rfl, hm⟩ := hp
      rw [hm]
      clear hm μ'
      rw [if_pos (by omega), show ((q1 : Int)).toNat = q1 from rfl]
      show G V E μ 27 _ (vr V q1 :: [])
      refine st_astore_n_4_2 hX dX6_isRight_27 (by first | exact ck_i _ | exact ck_r _ _ | exact ck_n | exact ck_0) ?_
      refine g_aload_n hX dX6_isRight_28 rfl ?_
      refine g_aload_n hX dX6_isRight_29 rfl ?_
      refine gf_X6_30 hX dX6_isRight_30 ?_
      refine g_iload_n hX dX6_isRight_33 rfl ?_
      refine g_v1I hX lk_X6_213 dX6_isRight_34 (c0 := 2) ok67 ⟨_, rfl, rfl⟩ (c_partOn (h := h) hI hE1 (by omega) (by omega)) (by first | decide | omega) (by decide) rfl (Nat.le_of_ble_eq_true rfl) (fun z μ' hp => ?_)
      obtain ⟨rfl, hm⟩ := hp
      rw [hm]
      clear hm μ'
      rw [hE5 p (by omega), e2]
      refine g_v1R hX lk_X6_66 dX6_isRight_37 (c0 := 6) ok63 ⟨_, rfl, rfl⟩ (c_partOf hI hN hN40 ⟨by omega, by omega⟩) (by first | decide | omega) (by decide) rfl (Nat.le_of_ble_eq_true rfl) (fun r μ' hp => ?_)
      obtain ⟨rfl, hm⟩ := hp
      rw [hm]
      clear hm μ'
      rw [if_pos (by omega), show ((q2 : Int)).toNat = q2 from rfl]
      show G V E μ 40 _ (vr V q2 :: [])
      refine st_astore_n_4_3 hX dX6_isRight_40 (by first | exact ck_i _ | exact ck_r _ _ | exact ck_n | exact ck_0) ?_
      refine g_aload_n hX dX6_isRight_41 rfl ?_
      refine g_ifnull hX dX6_isRight_42 ?_
      refine g_aload_n hX dX6_isRight_45 rfl ?_
      refine g_ifnull hX dX6_isRight_46 ?_
      refine g_aload_n hX dX6_isRight_49 rfl ?_
      refine gf_X6_70 hX dX6_isRight_50 (by first | assumption | exact okd_part (by omega) | exact okd_bed (by omega) | exact okd_pile (by omega) | exact okd_dpile (by omega)) ?_
      refine g_aload_n hX dX6_isRight_53 rfl ?_
      refine gf_X6_70 hX dX6_isRight_54 (by first | assumption | exact okd_part (by omega) | exact okd_bed (by omega) | exact okd_pile (by omega) | exact okd_dpile (by omega)) ?_
      rw [n1, n2]
      refine g_icmp_le (tgt := 62) hX dX6_isRight_57 (by decide) ⟨by omega, by omega⟩ ⟨by omega, by omega⟩ (fun h3 => ?_) (fun h3 => ?_)
      · refine st_iinc_4_1 hX dX6_isRight_62 (by first | exact ck_i _ | exact ck_r _ _ | exact ck_n | exact ck_0) ?_
        refine g_goto (tgt := 2) hX dX6_isRight_65 (by decide) ?_
        refine fg_4_2 ?_
        refine fg_4_3 ?_
        refine ih (p + 1) (by omega) (by omega) (fun k hk2 => ?_)
        by_cases hkp : k + 1 = p
        · rw [hkp, e2, show k = p - 1 by omega, e1]
          exact h3
        · exact hk k (by omega)
      · refine g_iconst hX dX6_isRight_60 ?_
        refine g_zret hX hR dX6_isRight_61 (Or.inl rfl) ⟨_, rfl, ?_, rfl⟩
        refine (rightZ_0 m h (p - 1) (by omega) ?_).symm
        rw [show p - 1 + 1 = p by omega, e2, e1]
        exact h3
  refine g_iconst hX dX6_isRight_0 ?_
  refine st_istore_n_4_1 hX dX6_isRight_1 (by first | exact ck_i _ | exact ck_r _ _ | exact ck_n | exact ck_0) ?_
  by_cases h0 : h = 0
  · rw [h0] at hR
    refine g_iload_n hX dX6_isRight_2 rfl ?_
    refine g_aload_n hX dX6_isRight_3 rfl ?_
    refine gf_X6_30 hX dX6_isRight_4 ?_
    refine gf_X6_212 hX dX6_isRight_7 ?_
    refine g_icmp_ge (tgt := 68) hX dX6_isRight_10 (by decide) ⟨by omega, by omega⟩ ⟨by omega, by omega⟩ (fun _ => ?_) (fun hc => absurd hc (by omega))
    refine g_iconst hX dX6_isRight_68 ?_
    refine g_zret hX hR dX6_isRight_69 (Or.inr rfl) ⟨_, rfl, rfl, rfl⟩
  · exact loop (h - 1) 1 (by omega) (by omega) (fun k hk => absurd hk (by omega))
set_option maxHeartbeats 4000000 in
theorem x_lorry {lnch : Launch} {V : VX} (hI : InjV V) {μ : Mem} {m : Mem} {c : Nat} {w : Int} (hR0 : RelXM μ m) (hM : IM c m) (hw : in32 w) : Ct lnch yX6_lorry cX6_lorry 2 (some .int) 3 V [vr V 63, vi w] μ (pI (XP μ (spLorry m w))) := by
  refine Ct_of (by decide) hI (Nat.le_of_ble_eq_true rfl) (fun E hE hX hR => ?_)
  have hX : OkX V E RX6 cX6_lorry 2 3 := hX
  show G V E μ 0 [some (vr V 63), some (vi w)] []
  unfold spLorry at hR
  obtain ⟨hw1, hw2⟩ := hw
  obtain ⟨e1, e2, e3, e4, -⟩ := hR0.2.2.2.2
  refine g_iload_n hX dX6_lorry_0 rfl ?_
  have hcs : w = 0 ∨ w = 1 ∨ w = 2 ∨ w = 3 ∨ w = 4 ∨ (w < 0 ∨ 4 < w) := by omega
  rcases hcs with rfl | rfl | rfl | rfl | rfl | hcs
  · refine g_tin (tgt := 36) hX dX6_lorry_1 ⟨by decide, by decide⟩ (by decide) (by decide) rfl (by decide) ?_
    refine g_aload_n hX dX6_lorry_36 rfl ?_
    refine gf_X6_30 hX dX6_lorry_37 ?_
    refine gf_X6_212 hX dX6_lorry_40 ?_
    refine g_iret hX hR dX6_lorry_43 ⟨_, rfl, e1, hR0, rfl⟩
  · refine g_tin (tgt := 44) hX dX6_lorry_1 ⟨by decide, by decide⟩ (by decide) (by decide) rfl (by decide) ?_
    refine g_aload_n hX dX6_lorry_44 rfl ?_
    refine gf_X6_30 hX dX6_lorry_45 ?_
    refine gf_X6_220 hX dX6_lorry_48 ?_
    refine g_iret hX hR dX6_lorry_51 ⟨_, rfl, e2, hR0, rfl⟩
  · refine g_tin (tgt := 52) hX dX6_lorry_1 ⟨by decide, by decide⟩ (by decide) (by decide) rfl (by decide) ?_
    refine g_aload_n hX dX6_lorry_52 rfl ?_
    refine gf_X6_30 hX dX6_lorry_53 ?_
    refine gf_X6_221 hX dX6_lorry_56 ?_
    refine g_iret hX hR dX6_lorry_59 ⟨_, rfl, e3, hR0, rfl⟩
  · refine g_tin (tgt := 60) hX dX6_lorry_1 ⟨by decide, by decide⟩ (by decide) (by decide) rfl (by decide) ?_
    refine g_aload_n hX dX6_lorry_60 rfl ?_
    refine gf_X6_30 hX dX6_lorry_61 ?_
    refine gf_X6_224 hX dX6_lorry_64 ?_
    refine g_iret hX hR dX6_lorry_67 ⟨_, rfl, e4, hR0, rfl⟩
  · refine g_tin (tgt := 68) hX dX6_lorry_1 ⟨by decide, by decide⟩ (by decide) (by decide) rfl (by decide) ?_
    refine g_aload_n hX dX6_lorry_68 rfl ?_
    refine g_v0I hX lk_X6_227 dX6_lorry_69 (c0 := 6) ok63 ⟨_, rfl, rfl⟩ (c_isRight hI hR0 hM) (by first | decide | omega) (by decide) rfl (Nat.le_of_ble_eq_true rfl) (fun z μ' hp => ?_)
    obtain ⟨rfl, hm⟩ := hp
    rw [hm]
    clear hm μ'
    rcases rightZ_01 m (m 0 17).toNat with h | h
    · rw [h]
      refine g_if_eq (tgt := 79) hX dX6_lorry_72 (by decide) ⟨by omega, by omega⟩ (fun _ => ?_) (fun hc => absurd hc (by omega))
      refine g_iconst hX dX6_lorry_79 ?_
      refine g_iret hX hR dX6_lorry_80 ⟨_, rfl, h.symm, hR0, rfl⟩
    · rw [h]
      refine g_if_eq (tgt := 79) hX dX6_lorry_72 (by decide) ⟨by omega, by omega⟩ (fun hc => absurd hc (by omega)) (fun _ => ?_)
      refine g_iconst hX dX6_lorry_75 ?_
      refine g_goto (tgt := 80) hX dX6_lorry_76 (by decide) ?_
      refine g_iret hX hR dX6_lorry_80 ⟨_, rfl, h.symm, hR0, rfl⟩
  · refine g_tout (tgt := 81) hX dX6_lorry_1 ⟨by omega, by omega⟩ (by omega) (by decide) ?_
    refine g_iconst hX dX6_lorry_81 ?_
    refine g_iret hX hR dX6_lorry_82 ⟨_, rfl, ?_, hR0, rfl⟩
    show (-1 : Int) = if w = 0 then _ else _
    rw [if_neg (by omega), if_neg (by omega), if_neg (by omega), if_neg (by omega), if_neg (by omega)]
