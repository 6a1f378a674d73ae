/-! the reference's fewest casts -/
theorem b_xor (x y : Int32) (i : Nat) : bt (x ^^^ y) i = (bt x i ^^ bt y i) := by unfold bt; rw [Int32.toBitVec_xor, BitVec.getLsbD_xor]
theorem b_m1 : ∀ i, i < 32 → bt (-1) i = true := by decide +kernel
theorem bt_nI (s : Nat) {i : Nat} (hi : i < 32) : bt (nI s) i = s.testBit i := by
  show (BitVec.ofNat 32 s).getLsbD i = _
  rw [BitVec.getLsbD_ofNat, decide_eq_true hi, Bool.true_and]
theorem bitZ_nat (s : Nat) {i : Nat} (hi : i < 32) : bitZ (s : Int) i = s.testBit i := by
  unfold bitZ
  rw [nI_of_nat, bt_nI s hi]
theorem and_nat {x y : Nat} (hx : x < 2147483648) : (Int32.ofInt (x : Int) &&& Int32.ofInt (y : Int)).toInt = ((x &&& y : Nat) : Int) := by
  rw [nI_of_nat, nI_of_nat]
  have e : nI x &&& nI y = nI (x &&& y) := b_ext (fun i hi => by rw [b_and, bt_nI x hi, bt_nI y hi, bt_nI _ hi, Nat.testBit_and])
  rw [e]
  exact nI_toInt (Nat.lt_of_le_of_lt Nat.and_le_left hx)
theorem andn_nat {s t : Nat} (hs : s < 2147483648) (h : t &&& s = t) (h0 : 0 < t) : (Int32.ofInt (s : Int) &&& Int32.ofInt ((Int32.ofInt (t : Int) ^^^ Int32.ofInt (-1)).toInt)).toInt = ((s ^^^ t : Nat) : Int) := by
  rw [iT, nI_of_nat, nI_of_nat, show Int32.ofInt (-1) = -1 from by decide]
  have e : nI s &&& (nI t ^^^ -1) = nI (s ^^^ t) := b_ext (fun i hi => by
    rw [b_and, b_xor, bt_nI s hi, bt_nI t hi, b_m1 i hi, bt_nI _ hi, Nat.testBit_xor]
    have := sub_bits h i
    unfold bS at this
    cases h1 : t.testBit i
    · simp
    · rw [this h1]; rfl)
  rw [e]
  exact nI_toInt (Nat.lt_trans (xor_lt h h0) hs)
theorem low_all : (List.range 4096).all (fun s => s == 0 || (List.range 12).any (fun j => s.testBit j && ((Int32.ofInt (s : Int) &&& Int32.ofInt (-(s : Int))).toInt == ((2 ^ j : Nat) : Int)))) = true := by decide +kernel
theorem low_bit {s : Nat} (h : s < 4096) (h0 : 0 < s) : ∃ j, j < 12 ∧ s.testBit j = true ∧ (Int32.ofInt (s : Int) &&& Int32.ofInt (-(s : Int))).toInt = ((2 ^ j : Nat) : Int) := by
  have := List.all_eq_true.mp low_all s (List.mem_range.mpr h)
  rw [Bool.or_eq_true] at this
  rcases this with h1 | h1
  · have : s = 0 := by simpa using h1
    omega
  · obtain ⟨j, hj, h2⟩ := List.any_eq_true.mp h1
    rw [Bool.and_eq_true] at h2
    exact ⟨j, List.mem_range.mp hj, h2.1, by simpa using h2.2⟩
theorem shl_1 : ∀ A : Nat, A < 13 → (Int32.ofInt 1 <<< (Int32.ofInt (A : Int) &&& 31)).toInt = ((2 ^ A : Nat) : Int) := by decide +kernel
theorem pow_12 : ∀ A : Nat, A < 13 → 1 ≤ 2 ^ A ∧ 2 ^ A ≤ 4096 := by decide
theorem and_pow {s j : Nat} : 0 < s &&& 2 ^ j ↔ s.testBit j = true := by
  constructor
  · intro h
    cases h1 : s.testBit j
    · exfalso
      have : s &&& 2 ^ j = 0 := by
        apply Nat.eq_of_testBit_eq
        intro i
        rw [Nat.testBit_and, Nat.zero_testBit, Nat.testBit_two_pow]
        by_cases e : j = i
        · subst e; rw [h1]; rfl
        · rw [decide_eq_false e, Bool.and_false]
      omega
    · rfl
  · intro h
    apply Nat.pos_of_ne_zero
    intro h0
    have h2 : (s &&& 2 ^ j).testBit j = true := by rw [Nat.testBit_and, h, Nat.testBit_two_pow_self]; rfl
    rw [h0, Nat.zero_testBit] at h2
    exact absurd h2 (by decide)
def szM (μ : Mem) (k : Nat) : Int := μ 77 (μ 92 k).toNat + 4
def plM (μ : Mem) (k : Nat) : Int := μ 78 (μ 92 k).toNat
def AK (μ : Mem) (A : Nat) : Prop := μ 76 21 = (A : Int) ∧ A ≤ 12 ∧ ∀ k, k < A → (0 ≤ μ 92 k ∧ μ 92 k < 40) ∧ (5 ≤ szM μ k ∧ szM μ k ≤ 204) ∧ (0 ≤ plM μ k ∧ plM μ k ≤ 7)
def K93 (μ μ' : Mem) : Prop := ∀ k, k ≠ 93 → μ' k = μ k
theorem K93.sz {μ μ' : Mem} (h : K93 μ μ') : szM μ' = szM μ := by funext k; unfold szM; rw [h 77 (by decide), h 92 (by decide)]
theorem K93.pl {μ μ' : Mem} (h : K93 μ μ') : plM μ' = plM μ := by funext k; unfold plM; rw [h 78 (by decide), h 92 (by decide)]
theorem K93.ak {μ μ' : Mem} {A : Nat} (h : K93 μ μ') (ha : AK μ A) : AK μ' A := by
  unfold AK at *
  rw [h.sz, h.pl, h 92 (by decide), h 76 (by decide)]
  exact ha
set_option maxHeartbeats 4000000 in
theorem c_fits {lnch : Launch} {V : VX} (hI : InjV V) {μ : Mem} {A s : Nat} (ha : AK μ A) (hs : s < 4096) : Ct lnch yX7_fits cX7_fits 6 (some .boolean) 1 V [vr V 76, vi (s : Int)] μ (pB (fitS A (szM μ) (plM μ) (bS s)) μ) := by
  refine Ct_of (by decide) hI (Nat.le_of_ble_eq_true rfl) (fun E hE hX hR => ?_)
  have hX : OkX V E RX7 cX7_fits 6 1 := hX
  show G V E μ 0 [some (vr V 76), some (vi (s : Int)), none, none, none, none] []
  obtain ⟨hA, h12, hk⟩ := id ha
  have hss : ∀ k, k ≤ A → 0 ≤ ssum (szM μ) (bS s) k ∧ ssum (szM μ) (bS s) k ≤ 204 * (k : Int) := by
    intro k
    induction k with
    | zero => intro _; exact ⟨Int.le_refl 0, (by decide : (0 : Int) ≤ 204 * ((0 : Nat) : Int))⟩
    | succ k ih => intro hk2; have := ih (by omega); have := (hk k (by omega)).2.1; unfold ssum; split <;> omega
  have loop : ∀ (d k : Nat) (one z : Int), k + d = A → ((one = -1 ∧ ∀ i, i < k → bS s i = false) ∨ ∃ i, i < k ∧ bS s i = true ∧ one = plM μ i) →
      ((z = 1 ∧ ∀ i j, i < k → j < k → bS s i = true → bS s j = true → plM μ i = plM μ j) ∨ (z = 0 ∧ ¬ ∀ i j, i < k → j < k → bS s i = true → bS s j = true → plM μ i = plM μ j)) →
      G V E μ 11 [some (vr V 76), some (vi (s : Int)), some (vi (-4 + ssum (szM μ) (bS s) k)), some (vi one), some (vi z), some (vi (k : Int))] [] := by
    intro d
    induction d with
    | zero =>
      intro k one z hkd ho hz
      obtain rfl : k = A := by omega
      have hsk := hss k (Nat.le_refl k)
      refine g_iload hX dX7_fits_11 rfl ?_
      refine g_aload_n hX dX7_fits_13 rfl ?_
      refine gf_X7_120 hX dX7_fits_14 ?_
      refine g_icmp_ge (tgt := 98) hX dX7_fits_17 (by decide) ⟨by omega, by omega⟩ ⟨by omega, by omega⟩ (fun _ => ?_) (fun hc => absurd hc (by omega))
      refine g_iload hX dX7_fits_98 rfl ?_
      rcases hz with ⟨rfl, hz⟩ | ⟨rfl, hz⟩
      · refine g_if_eq (tgt := 114) hX dX7_fits_100 (by decide) ⟨by omega, by omega⟩ (fun hc => absurd hc (by omega)) (fun _ => ?_)
        refine g_iload_n hX dX7_fits_103 rfl ?_
        refine g_sipush hX dX7_fits_104 rfl ?_
        refine g_icmp_gt (tgt := 114) hX dX7_fits_107 (by decide) ⟨by omega, by omega⟩ ⟨by omega, by omega⟩ (fun h1 => ?_) (fun h1 => ?_)
        · refine g_iconst hX dX7_fits_114 ?_
          refine g_zret hX hR dX7_fits_115 (Or.inl rfl) ⟨_, rfl, Or.inr ⟨rfl, fun h => by have := h.2; omega⟩, rfl⟩
        · refine g_iconst hX dX7_fits_110 ?_
          refine g_goto (tgt := 115) hX dX7_fits_111 (by decide) ?_
          refine g_zret hX hR dX7_fits_115 (Or.inr rfl) ⟨_, rfl, Or.inl ⟨rfl, hz, by omega⟩, rfl⟩
      · refine g_if_eq (tgt := 114) hX dX7_fits_100 (by decide) ⟨by omega, by omega⟩ (fun _ => ?_) (fun hc => absurd hc (by omega))
        refine g_iconst hX dX7_fits_114 ?_
        refine g_zret hX hR dX7_fits_115 (Or.inl rfl) ⟨_, rfl, Or.inr ⟨rfl, fun h => hz h.1⟩, rfl⟩
    | succ d ih =>
      intro k one z hkd ho hz
      have hkk := hk k (by omega)
      have hsk := hss k (by omega)
      refine g_iload hX dX7_fits_11 rfl ?_
      refine g_aload_n hX dX7_fits_13 rfl ?_
      refine gf_X7_120 hX dX7_fits_14 ?_
      refine g_icmp_ge (tgt := 98) hX dX7_fits_17 (by decide) ⟨by omega, by omega⟩ ⟨by omega, by omega⟩ (fun hc => absurd hc (by omega)) (fun _ => ?_)
      refine g_iload_n hX dX7_fits_20 rfl ?_
      refine g_iload hX dX7_fits_21 rfl ?_
      refine g_ishr hX dX7_fits_23 ?_
      refine g_iconst hX dX7_fits_24 ?_
      refine g_iand hX dX7_fits_25 ?_
      rw [bit_s (s : Int) (by omega), bitZ_nat s (by omega)]
      by_cases hb : s.testBit k = true
      rotate_left
      · rw [if_neg hb]
        have hbf : bS s k = false := by unfold bS; simpa using hb
        refine g_iconst hX dX7_fits_26 ?_
        refine g_icmp_ne (tgt := 92) hX dX7_fits_27 (by decide) ⟨by omega, by omega⟩ ⟨by omega, by omega⟩ (fun _ => ?_) (fun hc => absurd hc (by omega))
        refine st_iinc_6_5 hX dX7_fits_92 (by first | exact ck_i _ | exact ck_r _ _ | exact ck_n | exact ck_0) ?_
        refine g_goto (tgt := 11) hX dX7_fits_95 (by decide) ?_
        have := ih (k + 1) one z (by omega) (by
          rcases ho with ⟨h1, h2⟩ | ⟨i, h1, h2⟩
          · refine Or.inl ⟨h1, fun i hi => ?_⟩
            by_cases e : i = k
            · rw [e]; exact hbf
            · exact h2 i (by omega)
          · exact Or.inr ⟨i, by omega, h2⟩) (by
          have key : (∀ i j, i < k + 1 → j < k + 1 → bS s i = true → bS s j = true → plM μ i = plM μ j) ↔ (∀ i j, i < k → j < k → bS s i = true → bS s j = true → plM μ i = plM μ j) := by
            constructor
            · intro h i j hi hj; exact h i j (by omega) (by omega)
            · intro h i j hi hj h1 h2
              have : i ≠ k := fun e => by rw [e, hbf] at h1; exact absurd h1 (by decide)
              have : j ≠ k := fun e => by rw [e, hbf] at h2; exact absurd h2 (by decide)
              exact h i j (by omega) (by omega) h1 h2
          rw [key]; exact hz)
        rw [show ssum (szM μ) (bS s) (k + 1) = ssum (szM μ) (bS s) k by
          show _ + (if bS s k = true then _ else _) = _
          rw [hbf]; simp] at this
        exact this
      rw [if_pos hb]
      have hbt : bS s k = true := hb
      have next : ∀ y : Int, ((y = 1 ∧ ∀ i j, i < k + 1 → j < k + 1 → bS s i = true → bS s j = true → plM μ i = plM μ j) ∨ (y = 0 ∧ ¬ ∀ i j, i < k + 1 → j < k + 1 → bS s i = true → bS s j = true → plM μ i = plM μ j)) →
          G V E μ 77 [some (vr V 76), some (vi (s : Int)), some (vi (-4 + ssum (szM μ) (bS s) k + (μ 77 (μ 92 k).toNat + 4))), some (vi one), some (vi z), some (vi (k : Int))] [vi y] := fun y hy => by
        refine st_istore_6_4 hX dX7_fits_77 (by first | exact ck_i _ | exact ck_r _ _ | exact ck_n | exact ck_0) ?_
        refine g_aload_n hX dX7_fits_79 rfl ?_
        refine gf_X7_13 hX dX7_fits_80 ?_
        refine g_aload_n hX dX7_fits_83 rfl ?_
        refine gf_X7_60 hX dX7_fits_84 ?_
        refine g_iload hX dX7_fits_87 rfl ?_
        refine g_ialdN hX dX7_fits_89 (N := 12) rfl rfl (by omega) (by decide) ?_
        refine g_ialdN (i := (μ 92 k).toNat) hX dX7_fits_90 (N := 40) rfl (by omega) (by omega) (by decide) ?_
        refine st_istore_n_6_3 hX dX7_fits_91 (by first | exact ck_i _ | exact ck_r _ _ | exact ck_n | exact ck_0) ?_
        refine st_iinc_6_5 hX dX7_fits_92 (by first | exact ck_i _ | exact ck_r _ _ | exact ck_n | exact ck_0) ?_
        refine g_goto (tgt := 11) hX dX7_fits_95 (by decide) ?_
        have := ih (k + 1) (plM μ k) y (by omega) (Or.inr ⟨k, by omega, hbt, rfl⟩) hy
        rw [show -4 + ssum (szM μ) (bS s) (k + 1) = -4 + ssum (szM μ) (bS s) k + szM μ k by
          show -4 + (_ + (if bS s k = true then _ else _)) = _
          rw [if_pos hbt]; omega] at this
        exact this
      have no : (¬ ∀ i j, i < k + 1 → j < k + 1 → bS s i = true → bS s j = true → plM μ i = plM μ j) → G V E μ 76 [some (vr V 76), some (vi (s : Int)), some (vi (-4 + ssum (szM μ) (bS s) k + (μ 77 (μ 92 k).toNat + 4))), some (vi one), some (vi z), some (vi (k : Int))] [] := fun h => by
        refine g_iconst hX dX7_fits_76 ?_
        exact next 0 (Or.inr ⟨rfl, h⟩)
      have yes : (∀ i j, i < k + 1 → j < k + 1 → bS s i = true → bS s j = true → plM μ i = plM μ j) → G V E μ 72 [some (vr V 76), some (vi (s : Int)), some (vi (-4 + ssum (szM μ) (bS s) k + (μ 77 (μ 92 k).toNat + 4))), some (vi one), some (vi z), some (vi (k : Int))] [] := fun h => by
        refine g_iconst hX dX7_fits_72 ?_
        refine g_goto (tgt := 77) hX dX7_fits_73 (by decide) ?_
        exact next 1 (Or.inl ⟨rfl, h⟩)
      have hpk : plM μ k = μ 78 (μ 92 k).toNat := rfl
      refine g_iconst hX dX7_fits_26 ?_
      refine g_icmp_ne (tgt := 92) hX dX7_fits_27 (by decide) ⟨by omega, by omega⟩ ⟨by omega, by omega⟩ (fun hc => absurd hc (by omega)) (fun _ => ?_)
      refine g_iload_n hX dX7_fits_30 rfl ?_
      refine g_aload_n hX dX7_fits_31 rfl ?_
      refine gf_X7_7 hX dX7_fits_32 ?_
      refine g_aload_n hX dX7_fits_35 rfl ?_
      refine gf_X7_60 hX dX7_fits_36 ?_
      refine g_iload hX dX7_fits_39 rfl ?_
      refine g_ialdN hX dX7_fits_41 (N := 12) rfl rfl (by omega) (by decide) ?_
      refine g_ialdN (i := (μ 92 k).toNat) hX dX7_fits_42 (N := 40) rfl (by omega) (by omega) (by decide) ?_
      refine g_iconst hX dX7_fits_43 ?_
      refine g_iadd hX dX7_fits_44 ?_
      refine g_iadd hX dX7_fits_45 ?_
      refine st_istore_n_6_2 hX dX7_fits_46 (by first | exact ck_i _ | exact ck_r _ _ | exact ck_n | exact ck_0) ?_
      refine g_iload hX dX7_fits_47 rfl ?_
      rcases hz with ⟨rfl, hz⟩ | ⟨rfl, hz⟩
      · refine g_if_eq (tgt := 76) hX dX7_fits_49 (by decide) ⟨by omega, by omega⟩ (fun hc => absurd hc (by omega)) (fun _ => ?_)
        refine g_iload_n hX dX7_fits_52 rfl ?_
        rcases ho with ⟨rfl, h2⟩ | ⟨i, h1, h2, rfl⟩
        · refine g_if_lt (tgt := 72) hX dX7_fits_53 (by decide) ⟨by omega, by omega⟩ (fun _ => ?_) (fun hc => absurd hc (by omega))
          refine yes (fun i j hi hj h3 h4 => ?_)
          have e1 : i = k := by
            apply Classical.byContradiction
            intro e; rw [h2 i (by omega)] at h3; exact absurd h3 (by decide)
          have e2 : j = k := by
            apply Classical.byContradiction
            intro e; rw [h2 j (by omega)] at h4; exact absurd h4 (by decide)
          rw [e1, e2]
        · have hki := (hk i (by omega)).2.2
          refine g_if_lt (tgt := 72) hX dX7_fits_53 (by decide) ⟨by omega, by omega⟩ (fun hc => absurd hc (by omega)) (fun _ => ?_)
          refine g_aload_n hX dX7_fits_56 rfl ?_
          refine gf_X7_13 hX dX7_fits_57 ?_
          refine g_aload_n hX dX7_fits_60 rfl ?_
          refine gf_X7_60 hX dX7_fits_61 ?_
          refine g_iload hX dX7_fits_64 rfl ?_
          refine g_ialdN hX dX7_fits_66 (N := 12) rfl rfl (by omega) (by decide) ?_
          refine g_ialdN (i := (μ 92 k).toNat) hX dX7_fits_67 (N := 40) rfl (by omega) (by omega) (by decide) ?_
          refine g_iload_n hX dX7_fits_68 rfl ?_
          refine g_icmp_ne (tgt := 76) hX dX7_fits_69 (by decide) ⟨by omega, by omega⟩ ⟨by omega, by omega⟩ (fun h3 => ?_) (fun h3 => ?_)
          · exact no (fun h => h3 (by rw [← hpk]; exact h k i (by omega) (by omega) hbt h2))
          · refine yes (fun a b ha2 hb2 h4 h5 => ?_)
            have toi : ∀ x, x < k + 1 → bS s x = true → plM μ x = plM μ i := fun x hx h6 => by
              by_cases e : x = k
              · rw [e, hpk]; exact h3
              · exact hz x i (by omega) h1 h6 h2
            rw [toi a ha2 h4, toi b hb2 h5]
      · refine g_if_eq (tgt := 76) hX dX7_fits_49 (by decide) ⟨by omega, by omega⟩ (fun _ => ?_) (fun hc => absurd hc (by omega))
        exact no (fun h => hz (fun i j hi hj => h i j (by omega) (by omega)))
  refine g_bipush hX dX7_fits_0 rfl ?_
  refine st_istore_n_6_2 hX dX7_fits_2 (by first | exact ck_i _ | exact ck_r _ _ | exact ck_n | exact ck_0) ?_
  refine g_iconst hX dX7_fits_3 ?_
  refine st_istore_n_6_3 hX dX7_fits_4 (by first | exact ck_i _ | exact ck_r _ _ | exact ck_n | exact ck_0) ?_
  refine g_iconst hX dX7_fits_5 ?_
  refine st_istore_6_4 hX dX7_fits_6 (by first | exact ck_i _ | exact ck_r _ _ | exact ck_n | exact ck_0) ?_
  refine g_iconst hX dX7_fits_8 ?_
  refine st_istore_6_5 hX dX7_fits_9 (by first | exact ck_i _ | exact ck_r _ _ | exact ck_n | exact ck_0) ?_
  exact loop A 0 (-1) 1 (by omega) (Or.inl ⟨rfl, fun i hi => absurd hi (by omega)⟩) (Or.inl ⟨rfl, fun i j hi => absurd hi (by omega)⟩)
/-- the rows of the fewest, as far as they are made -/
def FW (μ ν : Mem) (A s : Nat) : Prop := K93 μ ν ∧ ∀ t, t < s → ∃ x : Nat, ν 93 t = (x : Int) ∧ x ≤ 12 ∧ LCk A (szM μ) (plM μ) (bS t) x
theorem LC_0 {n : Nat} {sz pl : Nat → Int} : LCk n sz pl (bS 0) 0 :=
  ⟨⟨fun _ => 0, fun i _ h => absurd h (by unfold bS; rw [Nat.zero_testBit]; decide), fun b hb => absurd hb (by omega), fun i j _ _ h => absurd h (by unfold bS; rw [Nat.zero_testBit]; decide)⟩, fun j hj => absurd hj (by omega)⟩
set_option maxHeartbeats 4000000 in
theorem c_mfew {lnch : Launch} {V : VX} (hI : InjV V) {μ : Mem} {A : Nat} (ha : AK μ A) (h93 : μ 93 0 = 0) : Ct lnch yX7_fewestCasts cX7_fewestCasts 5 (some .int) 2 V [vr V 76] μ (pI (fun z μ' => (∃ x : Nat, z = (x : Int) ∧ LCk A (szM μ) (plM μ) (fun _ => true) x) ∧ K93 μ μ' ∧ μ' 93 0 = 0)) := by
  refine Ct_of (by decide) hI (Nat.le_of_ble_eq_true rfl) (fun E hE hX hR => ?_)
  have hX : OkX V E RX7 cX7_fewestCasts 5 2 := hX
  show G V E μ 0 [some (vr V 76), none, none, none, none] []
  obtain ⟨hA, h12, hk⟩ := id ha
  have hsz : ∀ i, i < A → 0 ≤ szM μ i ∧ szM μ i ≤ 304 := fun i hi => by have := (hk i hi).2.1; omega
  have hp12 := pow_12 A (by omega)
  have hsh := shl_1 A (by omega)
  have loop : ∀ (d s : Nat) (ν : Mem) (x2 x3 x4 : Option Value), s + d = 2 ^ A → 1 ≤ s → FW μ ν A s → ckV x3 → ckV x2 → G V E ν 2 [some (vr V 76), some (vi (s : Int)), x2, x3, x4] [] := by
    intro d
    induction d with
    | zero =>
      intro s ν x2 x3 x4 hs hs1 hf hck hck2
      have e21 : ν 76 21 = (A : Int) := by rw [hf.1 76 (by decide)]; exact hA
      refine g_iload_n hX dX7_fewestCasts_2 rfl ?_
      refine g_iconst hX dX7_fewestCasts_3 ?_
      refine g_aload_n hX dX7_fewestCasts_4 rfl ?_
      refine gf_X7_120 hX dX7_fewestCasts_5 ?_
      rw [e21]
      refine g_ishl hX dX7_fewestCasts_8 ?_
      rw [hsh]
      refine g_icmp_ge (tgt := 99) hX dX7_fewestCasts_9 (by decide) ⟨by omega, by omega⟩ ⟨by omega, by omega⟩ (fun _ => ?_) (fun hc => absurd hc (by omega))
      refine g_aload_n hX dX7_fewestCasts_99 rfl ?_
      refine gf_X7_63 hX dX7_fewestCasts_100 ?_
      refine g_iconst hX dX7_fewestCasts_103 ?_
      refine g_aload_n hX dX7_fewestCasts_104 rfl ?_
      refine gf_X7_120 hX dX7_fewestCasts_105 ?_
      rw [e21]
      refine g_ishl hX dX7_fewestCasts_108 ?_
      rw [hsh]
      obtain ⟨x, hx1, hx2, hx3⟩ := hf.2 (2 ^ A - 1) (by omega)
      refine g_iconst hX dX7_fewestCasts_109 ?_
      refine g_isub hX dX7_fewestCasts_110 ?_
      refine g_ialdN (i := (2 ^ A - 1)) hX dX7_fewestCasts_111 (N := 4096) rfl (by omega) (by omega) (by decide) ?_
      obtain ⟨x0, hx01, -, hx03⟩ := hf.2 0 (by omega)
      refine g_iret hX hR dX7_fewestCasts_112 ⟨_, rfl, ⟨x, hx1, LCk_cg (fun i hi => ?_) hx3⟩, hf.1, ?_⟩
      · unfold bS
        rw [Nat.testBit_two_pow_sub_one, decide_eq_true hi]
      · rw [hx01, LCk_u hx03 LC_0]; rfl
    | succ d ih =>
      intro s ν x2 x3 x4 hs hs1 hf hck hck2
      have e21 : ν 76 21 = (A : Int) := by rw [hf.1 76 (by decide)]; exact hA
      have hakν := hf.1.ak ha
      obtain ⟨j, hj12, hjs, hlow⟩ := low_bit (s := s) (by omega) (by omega)
      have hjA : j < A := by
        apply Classical.byContradiction
        intro h
        have h1 : s < 2 ^ j := Nat.lt_of_lt_of_le (show s < 2 ^ A by omega) (Nat.pow_le_pow_right (by decide) (by omega))
        rw [Nat.testBit_lt_two_pow h1] at hjs
        exact absurd hjs (by decide)
      have inner : ∀ (e sub : Nat) (B : Int), sub ≤ e → sub ≤ s → sub &&& s = sub → ((B = 99 ∨ (0 ≤ B ∧ B ≤ 13 ∧ CLk A (szM μ) (plM μ) (bS s) B.toNat))) →
          (∀ T : Nat, T &&& s = T → sub < T → T.testBit j = true → fitS A (szM μ) (plM μ) (bS T) → ∀ x, LCk A (szM μ) (plM μ) (bS (s ^^^ T)) x → B ≤ (x : Int) + 1) →
          G V E ν 23 [some (vr V 76), some (vi (s : Int)), some (vi B), some (vi ((2 ^ j : Nat) : Int)), some (vi (sub : Int))] [] := by
        have fin : ∀ B : Int, ((B = 99 ∨ (0 ≤ B ∧ B ≤ 13 ∧ CLk A (szM μ) (plM μ) (bS s) B.toNat))) →
            (∀ T : Nat, T &&& s = T → 0 < T → T.testBit j = true → fitS A (szM μ) (plM μ) (bS T) → ∀ x, LCk A (szM μ) (plM μ) (bS (s ^^^ T)) x → B ≤ (x : Int) + 1) →
            G V E ν 23 [some (vr V 76), some (vi (s : Int)), some (vi B), some (vi ((2 ^ j : Nat) : Int)), some (vi ((0 : Nat) : Int))] [] := fun B hB hall => by
          obtain ⟨ks, hks, hks12⟩ := LCk_ex (S := bS s) (n := A) (sz := szM μ) (pl := plM μ) hsz
          obtain ⟨T, hT1, hT2, hT3, hT4, hT5⟩ := CLk_sub hjA (show bS s j = true from hjs) hks.1
          have hTb : ∀ i, (setN T A).testBit i = (decide (i < A) && T i) := fun i => setN_bit T i A
          have htb : ∀ i, i < A → bS (setN T A) i = T i := fun i hi => by unfold bS; rw [hTb, decide_eq_true hi, Bool.true_and]
          have htj : (setN T A).testBit j = true := by rw [hTb, decide_eq_true hjA, hT2]; rfl
          have htsub : setN T A &&& s = setN T A := bits_sub (fun i hi => by
            have hi : (setN T A).testBit i = true := hi
            rw [hTb, Bool.and_eq_true] at hi
            exact hT1 i hi.2)
          have htpos : 0 < setN T A := Nat.pos_of_ne_zero (fun h => by rw [h, Nat.zero_testBit] at htj; exact absurd htj (by decide))
          have htfit : fitS A (szM μ) (plM μ) (bS (setN T A)) := by
            refine ⟨fun a b h1 h2 h3 h4 => hT3.1 a b h1 h2 (by rw [← htb a h1]; exact h3) (by rw [← htb b h2]; exact h4), ?_⟩
            rw [ssum_cg A htb]; exact hT3.2
          have hcl : CLk A (szM μ) (plM μ) (bS (s ^^^ setN T A)) (ks - 1) := CLk_cg (fun i hi => by
            rw [← dif_xor htsub]
            unfold dif
            rw [htb i hi]) hT5
          obtain ⟨x, hx, -⟩ := LCk_ex (S := bS (s ^^^ setN T A)) (n := A) (sz := szM μ) (pl := plM μ) hsz
          have hxk : x ≤ ks - 1 := by
            apply Classical.byContradiction
            intro h
            exact hx.2 (ks - 1) (by omega) hcl
          have hBx := hall _ htsub htpos htj htfit x hx
          have hBk : B = (ks : Int) := by
            rcases hB with h | ⟨h1, h2, h3⟩
            · omega
            · apply Classical.byContradiction
              intro h
              exact hks.2 B.toNat (by omega) h3
          refine g_iload hX dX7_fewestCasts_23 rfl ?_
          refine g_if_le (tgt := 86) hX dX7_fewestCasts_25 (by decide) ⟨by omega, by omega⟩ (fun _ => ?_) (fun hc => absurd hc (by omega))
          refine g_aload_n hX dX7_fewestCasts_86 rfl ?_
          refine gf_X7_63 hX dX7_fewestCasts_87 ?_
          refine g_iload_n hX dX7_fewestCasts_90 rfl ?_
          refine g_iload_n hX dX7_fewestCasts_91 rfl ?_
          refine g_iastN hX dX7_fewestCasts_92 (N := 4096) rfl rfl (by omega) (by decide) ?_
          refine st_iinc_5_1 hX dX7_fewestCasts_93 (by first | exact ck_i _ | exact ck_r _ _ | exact ck_n | exact ck_0) ?_
          refine g_goto (tgt := 2) hX dX7_fewestCasts_96 (by decide) ?_
          refine ih (s + 1) _ _ _ _ (by omega) (by omega) ⟨fun k hk2 => by rw [mset_cell (fun q => hk2 q.symm)]; exact hf.1 k hk2, fun t ht => ?_⟩ (ck_i _) (ck_i _)
          by_cases e : t = s
          · rw [e, mset_same]; exact ⟨ks, hBk, by omega, hks⟩
          · rw [mset_ne (Or.inr e)]; exact hf.2 t (by omega)
        intro e
        induction e with
        | zero =>
          intro sub B he hsub hss hB hall
          obtain rfl : sub = 0 := by omega
          exact fin B hB hall
        | succ e ihe =>
          intro sub B he hsub hss hB hall
          rcases Nat.eq_zero_or_pos sub with h0 | h0
          · subst h0; exact fin B hB hall
          have hsn := sub_next (s := s) h0
          have hB99 : -1 ≤ B ∧ B ≤ 99 := by rcases hB with h | h <;> omega
          have next : ∀ B' : Int, ((B' = 99 ∨ (0 ≤ B' ∧ B' ≤ 13 ∧ CLk A (szM μ) (plM μ) (bS s) B'.toNat))) → B' ≤ B → (sub.testBit j = true → fitS A (szM μ) (plM μ) (bS sub) → ∀ x, LCk A (szM μ) (plM μ) (bS (s ^^^ sub)) x → B' ≤ (x : Int) + 1) →
              G V E ν 75 [some (vr V 76), some (vi (s : Int)), some (vi B'), some (vi ((2 ^ j : Nat) : Int)), some (vi (sub : Int))] [] := fun B' hB' hle hsubT => by
            refine g_iload hX dX7_fewestCasts_75 rfl ?_
            refine g_iconst hX dX7_fewestCasts_77 ?_
            refine g_isub hX dX7_fewestCasts_78 ?_
            refine g_iload_n hX dX7_fewestCasts_79 rfl ?_
            rw [show (sub : Int) - 1 = ((sub - 1 : Nat) : Int) by omega]
            refine g_iand hX dX7_fewestCasts_80 ?_
            rw [and_nat (by omega)]
            refine st_istore_5_4 hX dX7_fewestCasts_81 (by first | exact ck_i _ | exact ck_r _ _ | exact ck_n | exact ck_0) ?_
            refine g_goto (tgt := 23) hX dX7_fewestCasts_83 (by decide) ?_
            refine ihe _ B' (by omega) (by omega) hsn.2 hB' (fun T hT1 hT2 hT3 hT4 x hx => ?_)
            by_cases e1 : T = sub
            · subst e1; exact hsubT hT3 hT4 x hx
            · have : sub < T := by
                apply Classical.byContradiction
                intro h
                have := sub_step (sub + 1) sub s T (by omega) hss hT1 (by omega)
                omega
              have := hall T hT1 this hT3 hT4 x hx
              omega
          refine g_iload hX dX7_fewestCasts_23 rfl ?_
          refine g_if_le (tgt := 86) hX dX7_fewestCasts_25 (by decide) ⟨by omega, by omega⟩ (fun hc => absurd hc (by omega)) (fun _ => ?_)
          refine g_iload hX dX7_fewestCasts_28 rfl ?_
          refine g_iload_n hX dX7_fewestCasts_30 rfl ?_
          refine g_iand hX dX7_fewestCasts_31 ?_
          rw [and_nat (by omega)]
          by_cases hbj : sub.testBit j = true
          rotate_left
          · have h1 : sub &&& 2 ^ j = 0 := by
              apply Classical.byContradiction
              intro h
              exact hbj (and_pow.mp (Nat.pos_of_ne_zero h))
            rw [h1]
            refine g_if_le (tgt := 75) hX dX7_fewestCasts_32 (by decide) ⟨by omega, by omega⟩ (fun _ => ?_) (fun hc => absurd hc (by omega))
            exact next B hB (Int.le_refl B) (fun h => absurd h hbj)
          have h1 := and_pow.mpr hbj
          have h2 : sub &&& 2 ^ j ≤ sub := Nat.and_le_left
          have hxl := xor_lt hss h0
          obtain ⟨x, hx1, hx2, hx3⟩ := hf.2 (s ^^^ sub) hxl
          refine g_if_le (tgt := 75) hX dX7_fewestCasts_32 (by decide) ⟨by omega, by omega⟩ (fun hc => absurd hc (by omega)) (fun _ => ?_)
          refine g_aload_n hX dX7_fewestCasts_35 rfl ?_
          refine gf_X7_63 hX dX7_fewestCasts_36 ?_
          refine g_iload_n hX dX7_fewestCasts_39 rfl ?_
          refine g_iload hX dX7_fewestCasts_40 rfl ?_
          refine g_iconst hX dX7_fewestCasts_42 ?_
          refine g_ixor hX dX7_fewestCasts_43 ?_
          refine g_iand hX dX7_fewestCasts_44 ?_
          rw [andn_nat (by omega) hss h0]
          refine g_ialdN hX dX7_fewestCasts_45 (N := 4096) rfl rfl (by omega) (by decide) ?_
          rw [hx1]
          refine g_iconst hX dX7_fewestCasts_46 ?_
          refine g_iadd hX dX7_fewestCasts_47 ?_
          refine g_iload_n hX dX7_fewestCasts_48 rfl ?_
          refine g_icmp_ge (tgt := 75) hX dX7_fewestCasts_49 (by decide) ⟨by omega, by omega⟩ ⟨by omega, by omega⟩ (fun h3 => ?_) (fun h3 => ?_)
          · exact next B hB (Int.le_refl B) (fun _ _ y hy => by rw [LCk_u hy hx3]; omega)
          refine g_aload_n hX dX7_fewestCasts_52 rfl ?_
          refine g_iload hX dX7_fewestCasts_53 rfl ?_
          refine g_v1I hX lk_X7_123 dX7_fewestCasts_55 (c0 := 7) ok76 ⟨_, rfl, rfl⟩ (c_fits hI hakν (by omega)) (by first | decide | omega) (by decide) rfl (Nat.le_of_ble_eq_true rfl) (fun z μ' hp => ?_)
          obtain ⟨hz, hm⟩ := hp
          rw [hm]; clear hm μ'
          rw [hf.1.sz, hf.1.pl] at hz
          rcases hz with ⟨rfl, hz⟩ | ⟨rfl, hz⟩
          · refine g_if_eq (tgt := 75) hX dX7_fewestCasts_58 (by decide) ⟨by omega, by omega⟩ (fun hc => absurd hc (by omega)) (fun _ => ?_)
            refine g_aload_n hX dX7_fewestCasts_61 rfl ?_
            refine gf_X7_63 hX dX7_fewestCasts_62 ?_
            refine g_iload_n hX dX7_fewestCasts_65 rfl ?_
            refine g_iload hX dX7_fewestCasts_66 rfl ?_
            refine g_iconst hX dX7_fewestCasts_68 ?_
            refine g_ixor hX dX7_fewestCasts_69 ?_
            refine g_iand hX dX7_fewestCasts_70 ?_
            rw [andn_nat (by omega) hss h0]
            refine g_ialdN hX dX7_fewestCasts_71 (N := 4096) rfl rfl (by omega) (by decide) ?_
            rw [hx1]
            refine g_iconst hX dX7_fewestCasts_72 ?_
            refine g_iadd hX dX7_fewestCasts_73 ?_
            refine st_istore_n_5_2 hX dX7_fewestCasts_74 (by first | exact ck_i _ | exact ck_r _ _ | exact ck_n | exact ck_0) ?_
            refine next _ (Or.inr ⟨by omega, by omega, ?_⟩) (by omega) (fun _ _ y hy => by rw [LCk_u hy hx3]; omega)
            rw [show ((x : Int) + 1).toNat = x + 1 by omega]
            exact CLk_add (fun i _ => sub_bits hss i) hz (CLk_cg (fun i hi => (dif_xor hss i).symm) hx3.1)
          · refine g_if_eq (tgt := 75) hX dX7_fewestCasts_58 (by decide) ⟨by omega, by omega⟩ (fun _ => ?_) (fun hc => absurd hc (by omega))
            exact next B hB (Int.le_refl B) (fun _ h => absurd h hz)
      refine g_iload_n hX dX7_fewestCasts_2 rfl ?_
      refine g_iconst hX dX7_fewestCasts_3 ?_
      refine g_aload_n hX dX7_fewestCasts_4 rfl ?_
      refine gf_X7_120 hX dX7_fewestCasts_5 ?_
      rw [e21]
      refine g_ishl hX dX7_fewestCasts_8 ?_
      rw [hsh]
      refine g_icmp_ge (tgt := 99) hX dX7_fewestCasts_9 (by decide) ⟨by omega, by omega⟩ ⟨by omega, by omega⟩ (fun hc => absurd hc (by omega)) (fun _ => ?_)
      refine g_bipush hX dX7_fewestCasts_12 rfl ?_
      refine st_istore_n_5_2 hX dX7_fewestCasts_14 (by first | exact ck_i _ | exact ck_r _ _ | exact ck_n | exact ck_0) ?_
      refine g_iload_n hX dX7_fewestCasts_15 rfl ?_
      refine g_iload_n hX dX7_fewestCasts_16 rfl ?_
      refine g_ineg hX dX7_fewestCasts_17 ?_
      refine g_iand hX dX7_fewestCasts_18 ?_
      rw [hlow]
      refine st_istore_n_5_3 hX dX7_fewestCasts_19 (ck_i _) ?_
      refine g_iload_n hX dX7_fewestCasts_20 rfl ?_
      refine st_istore_5_4 hX dX7_fewestCasts_21 (by first | exact ck_i _ | exact ck_r _ _ | exact ck_n | exact ck_0) ?_
      exact inner s s 99 (Nat.le_refl s) (Nat.le_refl s) (Nat.and_self s) (Or.inl rfl) (fun T hT1 hT2 => by
        exfalso
        have : T ≤ s := by rw [← hT1]; exact Nat.and_le_right
        omega)
  refine g_iconst hX dX7_fewestCasts_0 ?_
  refine st_istore_n_5_1 hX dX7_fewestCasts_1 (by first | exact ck_i _ | exact ck_r _ _ | exact ck_n | exact ck_0) ?_
  exact loop (2 ^ A - 1) 1 μ none none none (by omega) (by omega) ⟨fun _ _ => rfl, fun t ht => by
    obtain rfl : t = 0 := by omega
    exact ⟨0, h93, by omega, LC_0⟩⟩ ck_n ck_n
