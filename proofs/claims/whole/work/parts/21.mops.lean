/-! the reference's calls -/
section GL
variable {V : VX} {E : EX} {own : String} {cc : ByteArray} {n lvl pc : Nat} {μ : Mem} {L : List (Option Value)} {st : List Value}
abbrev in64 (z : Int) : Prop := -9223372036854775808 ≤ z ∧ z ≤ 9223372036854775807
theorem tL {z : Int} (h : in64 z) : (Int64.ofInt z).toInt = z := Int64.toInt_ofInt_of_le h.1 (by have := h.2; omega)
theorem l_lt {a b : Int} (ha : in64 a) (hb : in64 b) : Int64.ofInt a < Int64.ofInt b ↔ a < b := by rw [Int64.lt_iff_toInt_lt, tL ha, tL hb]
theorem l_eq {a b : Int} (ha : in64 a) (hb : in64 b) : Int64.ofInt a = Int64.ofInt b ↔ a = b := ⟨fun h => by have := congrArg Int64.toInt h; rwa [tL ha, tL hb] at this, fun h => by rw [h]⟩
theorem g_i2l (hX : OkX V E own cc n lvl) (d : decode cc pc = .ok (.i2l, 1)) {a : Int} (ha : in32 a) (k : G V E μ (pc + 1) L (vl a :: st)) : G V E μ pc L (vi a :: st) := by
  intro H locs ls hP hS hl
  refine lv_i2l hX.1 hX.2.1 d (v := Int64.ofInt a) ?_ (k H locs ls hP hS hl)
  apply Int64.toInt_inj.mp
  rw [Int32.toInt_toInt64, tI ha, tL ⟨by omega, by omega⟩]
theorem g_l2i (hX : OkX V E own cc n lvl) (d : decode cc pc = .ok (.l2i, 1)) {a : Int} (k : G V E μ (pc + 1) L (vi a :: st)) : G V E μ pc L (vl a :: st) := by
  intro H locs ls hP hS hl
  exact lv_l2i hX.1 hX.2.1 d Int64.toInt32_ofInt (k H locs ls hP hS hl)
theorem g_lcmp (hX : OkX V E own cc n lvl) (d : decode cc pc = .ok (.lcmp, 1)) {a b : Int} (ha : in64 a) (hb : in64 b) (k : G V E μ (pc + 1) L (vi (if b < a then 1 else if a = b then 0 else -1) :: st)) : G V E μ pc L (vl b :: vl a :: st) := by
  intro H locs ls hP hS hl
  have h := k H locs ls hP hS hl
  refine W.lcmp hX.1 hX.2.1 d ?_
  have e : lg_cmp (Int64.ofInt a) (Int64.ofInt b) = Int32.ofInt (if b < a then 1 else if a = b then 0 else -1) := by
    unfold lg_cmp
    by_cases h1 : b < a
    · rw [if_pos ((l_lt hb ha).mpr h1), if_pos h1]; rfl
    · rw [if_neg (fun q => h1 ((l_lt hb ha).mp q)), if_neg h1]
      by_cases h2 : a = b
      · rw [if_pos ((l_eq ha hb).mpr h2), if_pos h2]; rfl
      · rw [if_neg (fun q => h2 ((l_eq ha hb).mp q)), if_neg h2]; rfl
  rw [e]; exact h
end GL
theorem vwE {μ : Mem} {k j : Nat} : vw μ k j = μ (76 + k) j := rfl
theorem KpX_m {μ ν : Mem} {k j : Nat} {v : Int} (h : KpX μ ν) (hk : 76 ≤ k) : KpX μ (mset ν k j v) := h.tr (KpX.st hk)
def MP (μ : Mem) (sp : Int × Mem) : Int → Mem → Prop := fun z μ' => z = sp.1 ∧ vw μ' = sp.2 ∧ KpX μ μ'
set_option maxHeartbeats 4000000 in
theorem c_in {lnch : Launch} {V : VX} (hI : InjV V) {μ : Mem} {a b c : Int} (ha : in32 a) (hb : in32 b) (hc : in32 c) : Ct lnch yX7_in cX7_in 6 (some .boolean) 1 V [vl a, vl b, vl c] μ (pI (fun z μ' => z = (if b ≤ a ∧ a ≤ c then 1 else 0) ∧ μ' = μ)) := by
  refine Ct_of (by decide) hI (Nat.le_of_ble_eq_true rfl) (fun E hE hX hR => ?_)
  have hX : OkX V E RX7 cX7_in 6 1 := hX
  show G V E μ 0 [some (vl a), none, some (vl b), none, some (vl c), none] []
  obtain ⟨ha1, ha2⟩ := ha
  obtain ⟨hb1, hb2⟩ := hb
  obtain ⟨hc1, hc2⟩ := hc
  have no : ¬ (b ≤ a ∧ a ≤ c) → G V E μ 17 [some (vl a), none, some (vl b), none, some (vl c), none] [] := fun h => by
    refine g_iconst hX dX7_in_17 ?_
    refine g_zret hX hR dX7_in_18 (Or.inl rfl) ⟨_, rfl, by rw [if_neg h], rfl⟩
  refine g_lload_n hX dX7_in_0 rfl ?_
  refine g_lload_n hX dX7_in_1 rfl ?_
  refine g_lcmp hX dX7_in_2 ⟨by omega, by omega⟩ ⟨by omega, by omega⟩ ?_
  by_cases h1 : b ≤ a
  · have e1 : (if b < a then (1 : Int) else if a = b then 0 else -1) = (if b < a then 1 else 0) := by
      by_cases h : b < a
      · rw [if_pos h, if_pos h]
      · rw [if_neg h, if_neg h, if_pos (by omega)]
    rw [e1]
    have e2 : 0 ≤ (if b < a then (1 : Int) else 0) ∧ (if b < a then (1 : Int) else 0) ≤ 1 := by split <;> decide
    refine g_if_lt (tgt := 17) hX dX7_in_3 (by decide) ⟨by omega, by omega⟩ (fun hc => absurd hc (by omega)) (fun _ => ?_)
    refine g_lload_n hX dX7_in_6 rfl ?_
    refine g_lload hX dX7_in_7 rfl ?_
    refine g_lcmp hX dX7_in_9 ⟨by omega, by omega⟩ ⟨by omega, by omega⟩ ?_
    by_cases h2 : a ≤ c
    · have e3 : (if c < a then (1 : Int) else if a = c then 0 else -1) ≤ 0 ∧ -1 ≤ (if c < a then (1 : Int) else if a = c then 0 else -1) := by
        rw [if_neg (by omega)]; split <;> decide
      refine g_if_gt (tgt := 17) hX dX7_in_10 (by decide) ⟨by omega, by omega⟩ (fun hc => absurd hc (by omega)) (fun _ => ?_)
      refine g_iconst hX dX7_in_13 ?_
      refine g_goto (tgt := 18) hX dX7_in_14 (by decide) ?_
      refine g_zret hX hR dX7_in_18 (Or.inr rfl) ⟨_, rfl, by rw [if_pos ⟨h1, h2⟩], rfl⟩
    · rw [if_pos (by omega)]
      refine g_if_gt (tgt := 17) hX dX7_in_10 (by decide) ⟨by omega, by omega⟩ (fun _ => ?_) (fun hc => absurd hc (by omega))
      exact no (by omega)
  · rw [if_neg (by omega), if_neg (by omega)]
    refine g_if_lt (tgt := 17) hX dX7_in_3 (by decide) ⟨by omega, by omega⟩ (fun _ => ?_) (fun hc => absurd hc (by omega))
    exact no (by omega)
set_option maxHeartbeats 4000000 in
theorem c_isPart {lnch : Launch} {V : VX} (hI : InjV V) {μ : Mem} {n : Nat} {p : Int} (hn : μ 76 0 = (n : Int)) (hn40 : n ≤ 40) (hp : in32 p) : Ct lnch yX7_isPart cX7_isPart 2 (some .boolean) 2 V [vr V 76, vi p] μ (pI (fun z μ' => z = (if 0 ≤ p ∧ p < (n : Int) then 1 else 0) ∧ μ' = μ)) := by
  refine Ct_of (by decide) hI (Nat.le_of_ble_eq_true rfl) (fun E hE hX hR => ?_)
  have hX : OkX V E RX7 cX7_isPart 2 2 := hX
  show G V E μ 0 [some (vr V 76), some (vi p)] []
  obtain ⟨hp1, hp2⟩ := hp
  refine g_iload_n hX dX7_isPart_0 rfl ?_
  refine g_i2l hX dX7_isPart_1 ⟨by omega, by omega⟩ ?_
  refine g_lconst hX dX7_isPart_2 (z := 0) rfl ?_
  refine g_aload_n hX dX7_isPart_3 rfl ?_
  refine gf_X7_93 hX dX7_isPart_4 ?_
  refine g_iconst hX dX7_isPart_7 ?_
  refine g_isub hX dX7_isPart_8 ?_
  refine g_i2l hX dX7_isPart_9 ⟨by omega, by omega⟩ ?_
  refine g_s3I hX lk_X7_96 dX7_isPart_10 (c_in hI ⟨by omega, by omega⟩ ⟨by omega, by omega⟩ ⟨by omega, by omega⟩) (by decide) (by decide) rfl (Nat.le_of_ble_eq_true rfl) (fun z μ' hp => ?_)
  obtain ⟨rfl, hm⟩ := hp
  rw [hm]
  clear hm μ'
  by_cases h : 0 ≤ p ∧ p < (n : Int)
  · rw [if_pos (by omega)]
    refine g_zret hX hR dX7_isPart_13 (Or.inr rfl) ⟨_, rfl, by rw [if_pos h], rfl⟩
  · rw [if_neg (by omega)]
    refine g_zret hX hR dX7_isPart_13 (Or.inl rfl) ⟨_, rfl, by rw [if_neg h], rfl⟩
set_option maxHeartbeats 4000000 in
theorem c_areWell {lnch : Launch} {V : VX} (hI : InjV V) {μ : Mem} {a b c : Int} (ha : in32 a) (hb : in32 b) (hc : in32 c) : Ct lnch yX7_areWell cX7_areWell 3 (some .boolean) 2 V [vi a, vi b, vi c] μ (pI (fun z μ' => z = (if areM a b c then 1 else 0) ∧ μ' = μ)) := by
  refine Ct_of (by decide) hI (Nat.le_of_ble_eq_true rfl) (fun E hE hX hR => ?_)
  have hX : OkX V E RX7 cX7_areWell 3 2 := hX
  show G V E μ 0 [some (vi a), some (vi b), some (vi c)] []
  obtain ⟨ha1, ha2⟩ := ha
  obtain ⟨hb1, hb2⟩ := hb
  obtain ⟨hc1, hc2⟩ := hc
  have no : ¬ areM a b c → G V E μ 40 [some (vi a), some (vi b), some (vi c)] [] := fun h => by
    refine g_iconst hX dX7_areWell_40 ?_
    refine g_zret hX hR dX7_areWell_41 (Or.inl rfl) ⟨_, rfl, by rw [if_neg h], rfl⟩
  refine g_iload_n hX dX7_areWell_0 rfl ?_
  refine g_i2l hX dX7_areWell_1 ⟨by omega, by omega⟩ ?_
  refine g_lconst hX dX7_areWell_2 (z := 1) rfl ?_
  refine g_ldc2 (z := 200) hX dX7_areWell_3 tw_621 ?_
  refine g_s3I hX lk_X7_96 dX7_areWell_6 (c_in hI ⟨by omega, by omega⟩ ⟨by decide, by decide⟩ ⟨by decide, by decide⟩) (by decide) (by decide) rfl (Nat.le_of_ble_eq_true rfl) (fun z μ' hp => ?_)
  obtain ⟨rfl, hm⟩ := hp
  rw [hm]
  clear hm μ'
  by_cases h1 : 1 ≤ a ∧ a ≤ 200
  rotate_left
  · rw [if_neg h1]
    refine g_if_eq (tgt := 40) hX dX7_areWell_9 (by decide) ⟨by omega, by omega⟩ (fun _ => ?_) (fun hc => absurd hc (by omega))
    exact no (by omega)
  rw [if_pos h1]
  refine g_if_eq (tgt := 40) hX dX7_areWell_9 (by decide) ⟨by omega, by omega⟩ (fun hc => absurd hc (by omega)) (fun _ => ?_)
  refine g_iload_n hX dX7_areWell_12 rfl ?_
  refine g_i2l hX dX7_areWell_13 ⟨by omega, by omega⟩ ?_
  refine g_lconst hX dX7_areWell_14 (z := 0) rfl ?_
  refine g_ldc2 (z := 7) hX dX7_areWell_15 tw_625 ?_
  refine g_s3I hX lk_X7_96 dX7_areWell_18 (c_in hI ⟨by omega, by omega⟩ ⟨by decide, by decide⟩ ⟨by decide, by decide⟩) (by decide) (by decide) rfl (Nat.le_of_ble_eq_true rfl) (fun z μ' hp => ?_)
  obtain ⟨rfl, hm⟩ := hp
  rw [hm]
  clear hm μ'
  by_cases h2 : 0 ≤ b ∧ b ≤ 7
  rotate_left
  · rw [if_neg h2]
    refine g_if_eq (tgt := 40) hX dX7_areWell_21 (by decide) ⟨by omega, by omega⟩ (fun _ => ?_) (fun hc => absurd hc (by omega))
    exact no (by omega)
  rw [if_pos h2]
  refine g_if_eq (tgt := 40) hX dX7_areWell_21 (by decide) ⟨by omega, by omega⟩ (fun hc => absurd hc (by omega)) (fun _ => ?_)
  refine g_iload_n hX dX7_areWell_24 rfl ?_
  refine g_i2l hX dX7_areWell_25 ⟨by omega, by omega⟩ ?_
  refine g_lconst hX dX7_areWell_26 (z := 1) rfl ?_
  refine g_ldc2 (z := 100) hX dX7_areWell_27 tw_626 ?_
  refine g_s3I hX lk_X7_96 dX7_areWell_30 (c_in hI ⟨by omega, by omega⟩ ⟨by decide, by decide⟩ ⟨by decide, by decide⟩) (by decide) (by decide) rfl (Nat.le_of_ble_eq_true rfl) (fun z μ' hp => ?_)
  obtain ⟨rfl, hm⟩ := hp
  rw [hm]
  clear hm μ'
  by_cases h3 : 1 ≤ c ∧ c ≤ 100
  rotate_left
  · rw [if_neg h3]
    refine g_if_eq (tgt := 40) hX dX7_areWell_33 (by decide) ⟨by omega, by omega⟩ (fun _ => ?_) (fun hc => absurd hc (by omega))
    exact no (by omega)
  rw [if_pos h3]
  refine g_if_eq (tgt := 40) hX dX7_areWell_33 (by decide) ⟨by omega, by omega⟩ (fun hc => absurd hc (by omega)) (fun _ => ?_)
  refine g_iconst hX dX7_areWell_36 ?_
  refine g_goto (tgt := 41) hX dX7_areWell_37 (by decide) ?_
  refine g_zret hX hR dX7_areWell_41 (Or.inr rfl) ⟨_, rfl, by rw [if_pos (by omega)], rfl⟩
def comesX (μ : Mem) (n : Nat) (l p w nd : Int) : Mem := mset (mset (mset (mset (mset (mset (mset μ 77 n l) 78 n p) 79 n w) 80 n nd) 81 n 0) 82 n (-4)) 76 0 ((n : Int) + 1)
theorem vw_comes {μ : Mem} {n : Nat} {l p w nd : Int} : vw (comesX μ n l p w nd) = newM (vw μ) n l p w nd := by
  unfold comesX
  simp (disch := omega) only [vw_in]
  rfl
theorem kp_comes {μ : Mem} {n : Nat} {l p w nd : Int} : KpX μ (comesX μ n l p w nd) := by
  unfold comesX
  repeat first | exact KpX.rf | refine KpX_m ?_ (by omega)
set_option maxHeartbeats 4000000 in
theorem c_comes {lnch : Launch} {V : VX} (hI : InjV V) {μ : Mem} {n : Nat} {a b c d : Int} (hn : μ 76 0 = (n : Int)) (hn40 : n < 40) : Ct lnch yX7_comes cX7_comes 5 (some .int) 1 V [vr V 76, vi a, vi b, vi c, vi d] μ (pI (fun z μ' => z = (n : Int) ∧ μ' = comesX μ n a b c d)) := by
  refine Ct_of (by decide) hI (Nat.le_of_ble_eq_true rfl) (fun E hE hX hR => ?_)
  have hX : OkX V E RX7 cX7_comes 5 1 := hX
  show G V E μ 0 [some (vr V 76), some (vi a), some (vi b), some (vi c), some (vi d)] []
  refine g_aload_n hX dX7_comes_0 rfl ?_
  refine gf_X7_7 hX dX7_comes_1 ?_
  refine g_aload_n hX dX7_comes_4 rfl ?_
  refine gf_X7_93 hX dX7_comes_5 ?_
  rw [hn]
  refine g_iload_n hX dX7_comes_8 rfl ?_
  refine g_iastN hX dX7_comes_9 (N := 40) rfl rfl (by omega) (by decide) ?_
  refine g_aload_n hX dX7_comes_10 rfl ?_
  refine gf_X7_13 hX dX7_comes_11 ?_
  refine g_aload_n hX dX7_comes_14 rfl ?_
  refine gf_X7_93 hX dX7_comes_15 ?_
  simp (disch := omega) only [mset_ne, mset_same]; rw [hn]
  refine g_iload_n hX dX7_comes_18 rfl ?_
  refine g_iastN hX dX7_comes_19 (N := 40) rfl rfl (by omega) (by decide) ?_
  refine g_aload_n hX dX7_comes_20 rfl ?_
  refine gf_X7_16 hX dX7_comes_21 ?_
  refine g_aload_n hX dX7_comes_24 rfl ?_
  refine gf_X7_93 hX dX7_comes_25 ?_
  simp (disch := omega) only [mset_ne, mset_same]; rw [hn]
  refine g_iload_n hX dX7_comes_28 rfl ?_
  refine g_iastN hX dX7_comes_29 (N := 40) rfl rfl (by omega) (by decide) ?_
  refine g_aload_n hX dX7_comes_30 rfl ?_
  refine gf_X7_19 hX dX7_comes_31 ?_
  refine g_aload_n hX dX7_comes_34 rfl ?_
  refine gf_X7_93 hX dX7_comes_35 ?_
  simp (disch := omega) only [mset_ne, mset_same]; rw [hn]
  refine g_iload hX dX7_comes_38 rfl ?_
  refine g_iastN hX dX7_comes_40 (N := 40) rfl rfl (by omega) (by decide) ?_
  refine g_aload_n hX dX7_comes_41 rfl ?_
  refine gf_X7_22 hX dX7_comes_42 ?_
  refine g_aload_n hX dX7_comes_45 rfl ?_
  refine gf_X7_93 hX dX7_comes_46 ?_
  simp (disch := omega) only [mset_ne, mset_same]; rw [hn]
  refine g_iconst hX dX7_comes_49 ?_
  refine g_iastN hX dX7_comes_50 (N := 40) rfl rfl (by omega) (by decide) ?_
  refine g_aload_n hX dX7_comes_51 rfl ?_
  refine gf_X7_25 hX dX7_comes_52 ?_
  refine g_aload_n hX dX7_comes_55 rfl ?_
  refine gf_X7_93 hX dX7_comes_56 ?_
  simp (disch := omega) only [mset_ne, mset_same]; rw [hn]
  refine g_bipush hX dX7_comes_59 rfl ?_
  refine g_iastN hX dX7_comes_61 (N := 40) rfl rfl (by omega) (by decide) ?_
  refine g_aload_n hX dX7_comes_62 rfl ?_
  refine g_dup hX dX7_comes_63 rfl ?_
  refine gf_X7_93 hX dX7_comes_64 ?_
  simp (disch := omega) only [mset_ne, mset_same]; rw [hn]
  refine g_iconst hX dX7_comes_67 ?_
  refine g_iadd hX dX7_comes_68 ?_
  refine pf_X7_93 hX dX7_comes_69 ?_
  refine g_aload_n hX dX7_comes_72 rfl ?_
  refine gf_X7_93 hX dX7_comes_73 ?_
  simp (disch := omega) only [mset_ne, mset_same]
  refine g_iconst hX dX7_comes_76 ?_
  refine g_isub hX dX7_comes_77 ?_
  refine g_iret hX hR dX7_comes_78 ⟨_, rfl, by omega, rfl⟩
theorem vw_n {c : Nat} {μ : Mem} (hM : IM c (vw μ)) : ∃ n : Nat, n ≤ 40 ∧ μ 76 0 = (n : Int) ∧ vw μ 0 0 = (n : Int) := by
  have h1 := hM.1.1
  exact ⟨(vw μ 0 0).toNat, by omega, by rw [show μ 76 0 = vw μ 0 0 from rfl]; omega, by omega⟩
set_option maxHeartbeats 4000000 in
theorem m_part {lnch : Launch} {V : VX} (hI : InjV V) {μ : Mem} {c : Nat} {a b d : Int} (hM : IM c (vw μ)) (ha : in32 a) (hb : in32 b) (hd : in32 d) : Ct lnch yX7_part cX7_part 4 (some .int) 3 V [vr V 76, vi a, vi b, vi d] μ (pI (MP μ (spPart (vw μ) a b d))) := by
  refine Ct_of (by decide) hI (Nat.le_of_ble_eq_true rfl) (fun E hE hX hR => ?_)
  have hX : OkX V E RX7 cX7_part 4 3 := hX
  show G V E μ 0 [some (vr V 76), some (vi a), some (vi b), some (vi d)] []
  obtain ⟨n, hn40, hn, hmn⟩ := vw_n hM
  unfold spPart at hR
  refine g_iload_n hX dX7_part_0 rfl ?_
  refine g_iload_n hX dX7_part_1 rfl ?_
  refine g_iload_n hX dX7_part_2 rfl ?_
  refine g_s3I hX lk_X7_106 dX7_part_3 (c_areWell hI ha hb hd) (by decide) (by decide) rfl (Nat.le_of_ble_eq_true rfl) (fun z μ' hp => ?_)
  obtain ⟨rfl, hm⟩ := hp
  rw [hm]
  clear hm μ'
  by_cases h1 : areM a b d
  · rw [if_pos h1]
    rw [if_pos h1] at hR
    refine g_if_ne (tgt := 11) hX dX7_part_6 (by decide) ⟨by omega, by omega⟩ (fun _ => ?_) (fun hc => absurd hc (by omega))
    refine g_aload_n hX dX7_part_11 rfl ?_
    refine gf_X7_93 hX dX7_part_12 ?_
    refine g_bipush hX dX7_part_15 rfl ?_
    refine g_icmp_ne (tgt := 25) hX dX7_part_17 (by decide) ⟨by omega, by omega⟩ ⟨by omega, by omega⟩ (fun h2 => ?_) (fun h2 => ?_)
    · rw [if_pos (by omega)] at hR
      refine g_aload_n hX dX7_part_25 rfl ?_
      refine g_iload_n hX dX7_part_26 rfl ?_
      refine g_iload_n hX dX7_part_27 rfl ?_
      refine g_iload_n hX dX7_part_28 rfl ?_
      refine g_iconst hX dX7_part_29 ?_
      refine g_v4I hX lk_X7_110 dX7_part_30 (c0 := 7) ok76 ⟨_, rfl, rfl⟩ (c_comes hI hn (by omega)) (by first | decide | omega) (by decide) rfl (Nat.le_of_ble_eq_true rfl) (fun z μ' hp => ?_)
      obtain ⟨rfl, hm⟩ := hp
      rw [hm]
      clear hm μ'
      refine g_iret hX hR dX7_part_33 ⟨_, rfl, hmn.symm, ?_, kp_comes⟩
      rw [show (vw μ 0 0).toNat = n by omega]
      exact vw_comes
    · rw [if_neg (by omega)] at hR
      refine g_bipush hX dX7_part_20 rfl ?_
      refine g_goto (tgt := 33) hX dX7_part_22 (by decide) ?_
      refine g_iret hX hR dX7_part_33 ⟨_, rfl, rfl, rfl, KpX.rf⟩
  · rw [if_neg h1]
    rw [if_neg h1] at hR
    refine g_if_ne (tgt := 11) hX dX7_part_6 (by decide) ⟨by omega, by omega⟩ (fun hc => absurd hc (by omega)) (fun _ => ?_)
    refine g_iconst hX dX7_part_9 ?_
    refine g_iret hX hR dX7_part_10 ⟨_, rfl, rfl, rfl, KpX.rf⟩
set_option maxHeartbeats 4000000 in
theorem m_need {lnch : Launch} {V : VX} (hI : InjV V) {μ : Mem} {c : Nat} {p n : Int} (hM : IM c (vw μ)) (hp : in32 p) (hn : in32 n) : Ct lnch yX7_need cX7_need 4 (some .int) 3 V [vr V 76, vi p, vi n] μ (pI (MP μ (spNeed (vw μ) p n))) := by
  refine Ct_of (by decide) hI (Nat.le_of_ble_eq_true rfl) (fun E hE hX hR => ?_)
  have hX : OkX V E RX7 cX7_need 4 3 := hX
  show G V E μ 0 [some (vr V 76), some (vi p), some (vi n), none] []
  obtain ⟨N, hN40, hN, hmN⟩ := vw_n hM
  unfold spNeed at hR
  obtain ⟨hn1, hn2⟩ := hn
  have no : ¬ ((0 ≤ p ∧ p < vw μ 0 0) ∧ 0 ≤ n ∧ n ≤ 1000) → G V E μ 20 [some (vr V 76), some (vi p), some (vi n), none] [] := fun h => by
    rw [if_neg h] at hR
    refine g_iconst hX dX7_need_20 ?_
    refine g_iret hX hR dX7_need_21 ⟨_, rfl, rfl, rfl, KpX.rf⟩
  refine g_aload_n hX dX7_need_0 rfl ?_
  refine g_iload_n hX dX7_need_1 rfl ?_
  refine g_v1I hX lk_X7_114 dX7_need_2 (c0 := 7) ok76 ⟨_, rfl, rfl⟩ (c_isPart hI hN hN40 hp) (by first | decide | omega) (by decide) rfl (Nat.le_of_ble_eq_true rfl) (fun z μ' hp => ?_)
  obtain ⟨rfl, hm⟩ := hp
  rw [hm]
  clear hm μ'
  by_cases h1 : 0 ≤ p ∧ p < (N : Int)
  rotate_left
  · rw [if_neg h1]
    refine g_if_eq (tgt := 20) hX dX7_need_5 (by decide) ⟨by omega, by omega⟩ (fun _ => ?_) (fun hc => absurd hc (by omega))
    exact no (by omega)
  rw [if_pos h1]
  refine g_if_eq (tgt := 20) hX dX7_need_5 (by decide) ⟨by omega, by omega⟩ (fun hc => absurd hc (by omega)) (fun _ => ?_)
  refine g_iload_n hX dX7_need_8 rfl ?_
  refine g_i2l hX dX7_need_9 ⟨by omega, by omega⟩ ?_
  refine g_lconst hX dX7_need_10 (z := 0) rfl ?_
  refine g_ldc2 (z := 1000) hX dX7_need_11 tw_639 ?_
  refine g_s3I hX lk_X7_96 dX7_need_14 (c_in hI ⟨by omega, by omega⟩ ⟨by decide, by decide⟩ ⟨by decide, by decide⟩) (by decide) (by decide) rfl (Nat.le_of_ble_eq_true rfl) (fun z μ' hp => ?_)
  obtain ⟨rfl, hm⟩ := hp
  rw [hm]
  clear hm μ'
  by_cases h2 : 0 ≤ n ∧ n ≤ 1000
  rotate_left
  · rw [if_neg h2]
    refine g_if_ne (tgt := 22) hX dX7_need_17 (by decide) ⟨by omega, by omega⟩ (fun hc => absurd hc (by omega)) (fun _ => ?_)
    exact no (by omega)
  rw [if_pos h2]
  rw [if_pos (by omega)] at hR
  refine g_if_ne (tgt := 22) hX dX7_need_17 (by decide) ⟨by omega, by omega⟩ (fun _ => ?_) (fun hc => absurd hc (by omega))
  refine g_aload_n hX dX7_need_22 rfl ?_
  refine gf_X7_19 hX dX7_need_23 ?_
  refine g_iload_n hX dX7_need_26 rfl ?_
  refine g_ialdN (i := p.toNat) hX dX7_need_27 (N := 40) rfl (by omega) (by omega) (by decide) ?_
  refine st_istore_n_4_3 hX dX7_need_28 (by first | exact ck_i _ | exact ck_r _ _ | exact ck_n | exact ck_0) ?_
  refine g_aload_n hX dX7_need_29 rfl ?_
  refine gf_X7_19 hX dX7_need_30 ?_
  refine g_iload_n hX dX7_need_33 rfl ?_
  refine g_iload_n hX dX7_need_34 rfl ?_
  refine g_iastN (i := p.toNat) hX dX7_need_35 (N := 40) rfl (by omega) (by omega) (by decide) ?_
  refine g_iload_n hX dX7_need_36 rfl ?_
  refine g_iret hX hR dX7_need_37 ⟨_, rfl, rfl, vw_in (by omega), KpX.st (by omega)⟩
set_option maxHeartbeats 4000000 in
theorem m_warmth {lnch : Launch} {V : VX} (hI : InjV V) {μ : Mem} {w : Int} (hw : in32 w) : Ct lnch yX7_warmth cX7_warmth 3 (some .int) 2 V [vr V 76, vi w] μ (pI (MP μ (spWarm (vw μ) w))) := by
  refine Ct_of (by decide) hI (Nat.le_of_ble_eq_true rfl) (fun E hE hX hR => ?_)
  have hX : OkX V E RX7 cX7_warmth 3 2 := hX
  show G V E μ 0 [some (vr V 76), some (vi w), none] []
  unfold spWarm at hR
  obtain ⟨hw1, hw2⟩ := hw
  refine g_iload_n hX dX7_warmth_0 rfl ?_
  refine g_i2l hX dX7_warmth_1 ⟨by omega, by omega⟩ ?_
  refine g_ldc2 (z := -20) hX dX7_warmth_2 (by rw [show Int64.ofInt (-20) = (-20 : Int64) from by decide]; exact tw_665) ?_
  refine g_ldc2 (z := 60) hX dX7_warmth_5 tw_666 ?_
  refine g_s3I hX lk_X7_96 dX7_warmth_8 (c_in hI ⟨by omega, by omega⟩ ⟨by decide, by decide⟩ ⟨by decide, by decide⟩) (by decide) (by decide) rfl (Nat.le_of_ble_eq_true rfl) (fun z μ' hp => ?_)
  obtain ⟨rfl, hm⟩ := hp
  rw [hm]
  clear hm μ'
  by_cases h1 : -20 ≤ w ∧ w ≤ 60
  · rw [if_pos h1]
    rw [if_pos h1] at hR
    refine g_if_ne (tgt := 17) hX dX7_warmth_11 (by decide) ⟨by omega, by omega⟩ (fun _ => ?_) (fun hc => absurd hc (by omega))
    refine g_aload_n hX dX7_warmth_17 rfl ?_
    refine gf_X7_47 hX dX7_warmth_18 ?_
    refine st_istore_n_3_2 hX dX7_warmth_21 (by first | exact ck_i _ | exact ck_r _ _ | exact ck_n | exact ck_0) ?_
    refine g_aload_n hX dX7_warmth_22 rfl ?_
    refine g_iload_n hX dX7_warmth_23 rfl ?_
    refine pf_X7_47 hX dX7_warmth_24 ?_
    refine g_iload_n hX dX7_warmth_27 rfl ?_
    refine g_iret hX hR dX7_warmth_28 ⟨_, rfl, rfl, vw_in (by omega), KpX.st (by omega)⟩
  · rw [if_neg h1]
    rw [if_neg h1] at hR
    refine g_if_ne (tgt := 17) hX dX7_warmth_11 (by decide) ⟨by omega, by omega⟩ (fun hc => absurd hc (by omega)) (fun _ => ?_)
    refine g_bipush hX dX7_warmth_14 rfl ?_
    refine g_iret hX hR dX7_warmth_16 ⟨_, rfl, rfl, rfl, KpX.rf⟩
/-- the reference's beds up to k, hours later -/
def hrM (μ : Mem) (n : Int) : Nat → Mem
  | 0 => μ
  | k + 1 => mset (hrM μ n k) 87 k (ripeV (vw μ) n k)
theorem hrM_ne (μ : Mem) (n : Int) {c j : Nat} (h : c ≠ 87) : ∀ k, hrM μ n k c j = μ c j := by
  intro k
  induction k with
  | zero => rfl
  | succ k ih => unfold hrM; rw [mset_ne (Or.inl h)]; exact ih
theorem hrM_ge (μ : Mem) (n : Int) : ∀ k j, k ≤ j → hrM μ n k 87 j = μ 87 j := by
  intro k
  induction k with
  | zero => intro j _; rfl
  | succ k ih => intro j hj; unfold hrM; rw [mset_ne (Or.inr (by omega))]; exact ih j (by omega)
set_option maxHeartbeats 4000000 in
theorem m_hours {lnch : Launch} {V : VX} (hI : InjV V) {μ : Mem} {c : Nat} {n : Int} (hM : IM c (vw μ)) (hn : in32 n) : Ct lnch yX7_hours cX7_hours 3 (some .int) 2 V [vr V 76, vi n] μ (pI (MP μ (spHours (vw μ) n))) := by
  refine Ct_of (by decide) hI (Nat.le_of_ble_eq_true rfl) (fun E hE hX hR => ?_)
  have hX : OkX V E RX7 cX7_hours 3 2 := hX
  show G V E μ 0 [some (vr V 76), some (vi n), none] []
  unfold spHours at hR
  obtain ⟨hn1, hn2⟩ := hn
  obtain ⟨hs1, hs2, -⟩ := hM.2.1
  have hb := hM.2.2.1
  have e14 : vw μ 0 14 = μ 76 14 := rfl
  have e13 : vw μ 0 13 = μ 76 13 := rfl
  refine g_iload_n hX dX7_hours_0 rfl ?_
  refine g_i2l hX dX7_hours_1 ⟨by omega, by omega⟩ ?_
  refine g_lconst hX dX7_hours_2 (z := 1) rfl ?_
  refine g_ldc2 (z := 200) hX dX7_hours_3 tw_621 ?_
  refine g_s3I hX lk_X7_96 dX7_hours_6 (c_in hI ⟨by omega, by omega⟩ ⟨by decide, by decide⟩ ⟨by decide, by decide⟩) (by decide) (by decide) rfl (Nat.le_of_ble_eq_true rfl) (fun z μ' hp => ?_)
  obtain ⟨rfl, hm⟩ := hp
  rw [hm]
  clear hm μ'
  by_cases h1 : 1 ≤ n ∧ n ≤ 200
  rotate_left
  · rw [if_neg h1]
    rw [if_neg h1] at hR
    refine g_if_ne (tgt := 14) hX dX7_hours_9 (by decide) ⟨by omega, by omega⟩ (fun hc => absurd hc (by omega)) (fun _ => ?_)
    refine g_iconst hX dX7_hours_12 ?_
    refine g_iret hX hR dX7_hours_13 ⟨_, rfl, rfl, rfl, KpX.rf⟩
  rw [if_pos h1]
  rw [if_pos h1] at hR
  refine g_if_ne (tgt := 14) hX dX7_hours_9 (by decide) ⟨by omega, by omega⟩ (fun _ => ?_) (fun hc => absurd hc (by omega))
  refine g_aload_n hX dX7_hours_14 rfl ?_
  refine gf_X7_135 hX dX7_hours_15 ?_
  refine g_iload_n hX dX7_hours_18 rfl ?_
  refine g_iadd hX dX7_hours_19 ?_
  refine g_ldc (z := 100000) hX dX7_hours_20 tw_671 ?_
  refine g_icmp_le (tgt := 28) hX dX7_hours_22 (by decide) ⟨by omega, by omega⟩ ⟨by omega, by omega⟩ (fun h2 => ?_) (fun h2 => ?_)
  rotate_left
  · rw [if_neg (by omega)] at hR
    refine g_bipush hX dX7_hours_25 rfl ?_
    refine g_iret hX hR dX7_hours_27 ⟨_, rfl, rfl, rfl, KpX.rf⟩
  rw [if_pos (by omega)] at hR
  have loop : ∀ (d k : Nat), k + d = 3 → G V E (hrM μ n k) 30 [some (vr V 76), some (vi n), some (vi (k : Int))] [] := by
    intro d
    induction d with
    | zero =>
      intro k hk
      obtain rfl : k = 3 := by omega
      refine g_iload_n hX dX7_hours_30 rfl ?_
      refine g_iconst hX dX7_hours_31 ?_
      refine g_icmp_ge (tgt := 82) hX dX7_hours_32 (by decide) ⟨by omega, by omega⟩ ⟨by omega, by omega⟩ (fun _ => ?_) (fun hc => absurd hc (by omega))
      refine g_aload_n hX dX7_hours_82 rfl ?_
      refine g_dup hX dX7_hours_83 rfl ?_
      refine gf_X7_135 hX dX7_hours_84 ?_
      refine g_iload_n hX dX7_hours_87 rfl ?_
      refine g_iadd hX dX7_hours_88 ?_
      refine pf_X7_135 hX dX7_hours_89 ?_
      refine g_aload_n hX dX7_hours_92 rfl ?_
      refine gf_X7_135 hX dX7_hours_93 ?_
      simp (disch := omega) only [mset_ne, mset_same]
      rw [hrM_ne μ n (by decide)]
      refine g_iret hX hR dX7_hours_96 ⟨_, rfl, rfl, ?_, ?_⟩
      · unfold hrM hrM hrM hrM
        simp (disch := omega) only [vw_in]
        rfl
      · unfold hrM hrM hrM hrM
        repeat first | exact KpX.rf | refine KpX_m ?_ (by omega)
    | succ d ih =>
      intro k hk
      have hbk := (hb k (by omega)).1
      have e9 : vw μ 9 k = μ 85 k := rfl
      have e11 : vw μ 11 k = μ 87 k := rfl
      have next : ∀ g : Int, ripeV (vw μ) n k = μ 87 k + g → G V E (hrM μ n k) 74 [some (vr V 76), some (vi n), some (vi (k : Int))] [vi g, vi (μ 87 k), vi (k : Int), vr V 87] := fun g hg => by
        refine g_iadd hX dX7_hours_74 ?_
        rw [← hg]
        refine g_iastN hX dX7_hours_75 (N := 3) rfl rfl (by omega) (by decide) ?_
        refine st_iinc_3_2 hX dX7_hours_76 (by first | exact ck_i _ | exact ck_r _ _ | exact ck_n | exact ck_0) ?_
        refine g_goto (tgt := 30) hX dX7_hours_79 (by decide) ?_
        exact ih (k + 1) (by omega)
      refine g_iload_n hX dX7_hours_30 rfl ?_
      refine g_iconst hX dX7_hours_31 ?_
      refine g_icmp_ge (tgt := 82) hX dX7_hours_32 (by decide) ⟨by omega, by omega⟩ ⟨by omega, by omega⟩ (fun hc => absurd hc (by omega)) (fun _ => ?_)
      refine g_aload_n hX dX7_hours_35 rfl ?_
      refine gf_X7_41 hX dX7_hours_36 ?_
      refine g_iload_n hX dX7_hours_39 rfl ?_
      refine g_dup2 hX dX7_hours_40 rfl rfl ?_
      refine g_ialdN hX dX7_hours_41 (N := 3) rfl rfl (by omega) (by decide) ?_
      rw [hrM_ge μ n k k (Nat.le_refl k)]
      refine g_aload_n hX dX7_hours_42 rfl ?_
      refine gf_X7_35 hX dX7_hours_43 ?_
      refine g_iload_n hX dX7_hours_46 rfl ?_
      refine g_ialdN hX dX7_hours_47 (N := 3) rfl rfl (by omega) (by decide) ?_
      rw [hrM_ne μ n (by decide)]
      refine g_if_le (tgt := 73) hX dX7_hours_48 (by decide) ⟨by omega, by omega⟩ (fun h3 => ?_) (fun h3 => ?_)
      · refine g_iconst hX dX7_hours_73 ?_
        exact next 0 (by unfold ripeV; rw [if_neg (by omega)]; rfl)
      refine g_aload_n hX dX7_hours_51 rfl ?_
      refine gf_X7_47 hX dX7_hours_52 ?_
      refine g_bipush hX dX7_hours_55 rfl ?_
      refine g_iadd hX dX7_hours_57 ?_
      rw [hrM_ne μ n (by decide)]
      refine g_if_le (tgt := 73) hX dX7_hours_58 (by decide) ⟨by omega, by omega⟩ (fun h4 => ?_) (fun h4 => ?_)
      · refine g_iconst hX dX7_hours_73 ?_
        exact next 0 (by unfold ripeV; rw [if_neg (by omega)]; rfl)
      refine g_iload_n hX dX7_hours_61 rfl ?_
      refine g_aload_n hX dX7_hours_62 rfl ?_
      refine gf_X7_47 hX dX7_hours_63 ?_
      refine g_bipush hX dX7_hours_66 rfl ?_
      refine g_iadd hX dX7_hours_68 ?_
      refine g_imul hX dX7_hours_69 ?_
      rw [hrM_ne μ n (by decide)]
      refine g_goto (tgt := 74) hX dX7_hours_70 (by decide) ?_
      exact next _ (by unfold ripeV; rw [if_pos (by omega)]; rfl)
  refine g_iconst hX dX7_hours_28 ?_
  refine st_istore_n_3_2 hX dX7_hours_29 (by first | exact ck_i _ | exact ck_r _ _ | exact ck_n | exact ck_0) ?_
  exact loop 3 0 (by omega)
