/-! the class's calls: letGo, cast -/
def camV (m : Mem) (b p : Nat) : Int := m 1 p * m 1 p * (m 2 p + 1) / (m 11 b + 1000)
def qB (m : Mem) (b k : Nat) : Nat := (m 10 (40 * b + k)).toNat
def lgK (m : Mem) (b : Nat) : Nat → Mem
  | 0 => m
  | k + 1 => mset (mset (mset (mset (lgK m b k) 7 (qB m b k) (camV m b (qB m b k))) 6 (qB m b k) (-4)) 5 (qB m b k) (if m 8 (qB m b k) = 1 then 5 else 2)) 8 (qB m b k) 0
def looseK (m : Mem) (b : Nat) : Nat → Int
  | 0 => 0
  | k + 1 => looseK m b k + if m 8 (qB m b k) = 1 then 0 else 1
def spLetGo (m : Mem) (b : Int) : Int × Mem :=
  if 0 ≤ b ∧ b < 3 then (if m 9 b.toNat = 0 ∨ m 11 b.toNat < 500 ∨ m 0 14 - m 12 b.toNat < 12 then (-2, m) else
    (looseK m b.toNat (m 9 b.toNat).toNat, mset (mset (lgK m b.toNat (m 9 b.toNat).toNat) 9 b.toNat 0) 11 b.toNat 0)) else (-1, m)
theorem lgK_ne (m : Mem) (b : Nat) {c j : Nat} (h : c < 5 ∨ 8 < c) : ∀ k, lgK m b k c j = m c j := by
  intro k
  induction k with
  | zero => rfl
  | succ k ih => unfold lgK; rw [mset_ne (by omega), mset_ne (by omega), mset_ne (by omega), mset_ne (by omega)]; exact ih
theorem lgK_out (m : Mem) (b : Nat) {c q : Nat} : ∀ k, (∀ j, j < k → qB m b j ≠ q) → lgK m b k c q = m c q := by
  intro k
  induction k with
  | zero => intro _; rfl
  | succ k ih =>
    intro h
    have hk := h k (by omega)
    unfold lgK
    rw [mset_ne (Or.inr (fun e => hk e.symm)), mset_ne (Or.inr (fun e => hk e.symm)), mset_ne (Or.inr (fun e => hk e.symm)), mset_ne (Or.inr (fun e => hk e.symm))]
    exact ih (fun j hj => h j (by omega))
/-- the list of a bed, read off -/
theorem bed_q {c : Nat} {m : Mem} {b n : Nat} (hM : IM c m) (hb : b < 3) (hn : m 0 0 = (n : Int)) :
    (∀ k : Nat, (k : Int) < m 9 b → m 10 (40 * b + k) = (qB m b k : Int) ∧ qB m b k < n ∧ m 5 (qB m b k) = 1 ∧ m 6 (qB m b k) = (b : Int)) ∧
    (∀ d k : Nat, (k : Int) + 1 + d < m 9 b → qB m b k < qB m b (k + 1 + d)) ∧
    (∀ p : Nat, p < n → m 5 p = 1 → m 6 p = (b : Int) → ∃ k : Nat, (k : Int) < m 9 b ∧ qB m b k = p) := by
  obtain ⟨-, -, -, -, h5, h6, h7⟩ := hM.2.2.1 b hb
  have hq : ∀ k : Nat, (k : Int) < m 9 b → m 10 (40 * b + k) = (qB m b k : Int) ∧ qB m b k < n ∧ m 5 (qB m b k) = 1 ∧ m 6 (qB m b k) = (b : Int) := fun k hk => by
    have h := h5 k hk
    have e : m 10 (40 * b + k) = (qB m b k : Int) := by unfold qB; omega
    exact ⟨e, by omega, h.2.2.1, h.2.2.2⟩
  refine ⟨hq, ?_, fun p hp h1 h2 => ?_⟩
  · intro d
    induction d with
    | zero =>
      intro k hk
      have := h6 k (by omega)
      have e1 := (hq k (by omega)).1
      have e2 := (hq (k + 1) (by omega)).1
      rw [e1, e2] at this
      show qB m b k < qB m b (k + 1)
      omega
    | succ d ih =>
      intro k hk
      have h := ih k (by omega)
      have := h6 (k + 1 + d) (by omega)
      have e1 := (hq (k + 1 + d) (by omega)).1
      have e2 := (hq (k + 1 + d + 1) (by omega)).1
      rw [e1, e2] at this
      show qB m b k < qB m b (k + 1 + d + 1)
      omega
  · obtain ⟨k, hk, e⟩ := h7 p (by omega) h1 h2
    refine ⟨k, hk, ?_⟩
    have := (hq k hk).1
    omega
theorem R_bcl {ν m : Mem} {b : Nat} (hR : RelXM ν m) (hb : b < 3) : RelXM (mset (mset (mset ν (40 + b) 0 0) (40 + b) 1 0) (40 + b) 2 0) (mset (mset m 9 b 0) 11 b 0) := by
  obtain ⟨hA, hB, hC, hD, hE⟩ := hR
  refine ⟨?_, fun i j' hi hj' => ?_, fun b' hb3 => ?_, fun t ht => ?_, ?_⟩
  · simp (disch := omega) only [mset_ne]; exact hA
  · have hBi := hB i j' hi hj'
    unfold pvF at hBi ⊢
    simp (disch := omega) only [mset_ne]
    exact hBi
  · by_cases e : b' = b
    · subst e
      simp (disch := omega) only [mset_ne, mset_same]
      refine ⟨trivial, ?_, trivial, (hC b' hb3).2.2.2⟩
      unfold bedlen
      rw [mset_ne (Or.inl (by decide)), mset_same, if_pos rfl]
    · rw [bedlen_cg (m := m) (by simp (disch := omega) only [mset_ne]) (fun k hk => ⟨by simp (disch := omega) only [mset_ne], by simp (disch := omega) only [mset_ne]⟩)]
      simp (disch := omega) only [mset_ne]
      exact hC b' hb3
  · simp (disch := omega) only [mset_ne]; exact hD t ht
  · obtain ⟨h1, h2, h3, h4, h5⟩ := hE
    have e3 : ∀ k : Nat, k < (m 0 17).toNat → mset (mset m 9 b 0) 11 b 0 15 k = m 15 k ∧ mset (mset m 9 b 0) 11 b 0 3 (m 15 k).toNat = m 3 (m 15 k).toNat := fun k hk => ⟨by simp (disch := omega) only [mset_ne], by simp (disch := omega) only [mset_ne]⟩
    rw [show mset (mset m 9 b 0) 11 b 0 0 17 = m 0 17 by simp (disch := omega) only [mset_ne], heavyK_cg e3, frontK_cg e3, rearK_cg e3]
    simp (disch := omega) only [mset_ne]
    exact ⟨h1, h2, h3, h4, h5⟩
set_option maxHeartbeats 4000000 in
theorem x_letGo {lnch : Launch} {V : VX} (hI : InjV V) {μ : Mem} {m : Mem} {c : Nat} {b : Int} (hR0 : RelXM μ m) (hM : IM c m) (hb : in32 b) (hc : c ≤ 100000) : Ct lnch yX6_letGo cX6_letGo 6 (some .int) 3 V [vr V 63, vi b] μ (pI (XP μ (spLetGo m b))) := by
  refine Ct_of (by decide) hI (Nat.le_of_ble_eq_true rfl) (fun E hE hX hR => ?_)
  have hX : OkX V E RX6 cX6_letGo 6 3 := hX
  show G V E μ 0 [some (vr V 63), some (vi b), none, none, none, none] []
  obtain ⟨N, hN40, hmN, hN⟩ := rel_n hR0 hM
  unfold spLetGo at hR
  refine g_aload_n hX dX6_letGo_0 rfl ?_
  refine g_iload_n hX dX6_letGo_1 rfl ?_
  refine g_v1R hX lk_X6_88 dX6_letGo_2 (c0 := 6) ok63 ⟨_, rfl, rfl⟩ (c_bedOf hI hb) (by first | decide | omega) (by decide) rfl (Nat.le_of_ble_eq_true rfl) (fun r μ' hp => ?_)
  obtain ⟨rfl, hm⟩ := hp
  rw [hm]
  clear hm μ'
  by_cases h1 : 0 ≤ b ∧ b < 3
  rotate_left
  · rw [if_neg h1]
    rw [if_neg h1] at hR
    show G V E μ 5 _ (Value.null :: [])
    refine st_astore_nN_6_2 hX dX6_letGo_5 (by first | exact ck_i _ | exact ck_r _ _ | exact ck_n | exact ck_0) ?_
    refine g_aload_nN hX dX6_letGo_6 rfl ?_
    refine g_ifnonnullN hX dX6_letGo_7 ?_
    refine g_iconst hX dX6_letGo_10 ?_
    refine g_iret hX hR dX6_letGo_11 ⟨_, rfl, rfl, hR0, rfl⟩
  rw [if_pos h1]
  rw [if_pos h1] at hR
  obtain ⟨t, rfl⟩ : ∃ t : Nat, b = (t : Int) := ⟨b.toNat, by omega⟩
  rw [show ((t : Int)).toNat = t from rfl] at *
  have ht3 : t < 3 := by omega
  have hy := hM.2.2.1 t ht3
  have hd := hR0.2.2.1 t ht3
  have hs := hM.2.1.1
  have hh := hR0.1.2.2.2.1
  have no : (m 9 t = 0 ∨ m 11 t < 500 ∨ m 0 14 - m 12 t < 12) → G V E μ 43 [some (vr V 63), some (vi (t : Int)), some (vr V (40 + t)), none, none, none] [] := fun h => by
    rw [if_pos h] at hR
    refine g_bipush hX dX6_letGo_43 rfl ?_
    refine g_iret hX hR dX6_letGo_45 ⟨_, rfl, rfl, hR0, rfl⟩
  show G V E μ 5 _ (vr V (40 + t) :: [])
  refine st_astore_n_6_2 hX dX6_letGo_5 (by first | exact ck_i _ | exact ck_r _ _ | exact ck_n | exact ck_0) ?_
  refine g_aload_n hX dX6_letGo_6 rfl ?_
  refine g_ifnonnull (tgt := 12) hX dX6_letGo_7 (by decide) ?_
  refine g_aload_n hX dX6_letGo_12 rfl ?_
  refine gf_X6_96 hX dX6_letGo_13 (by first | assumption | exact okd_part (by omega) | exact okd_bed (by omega) | exact okd_pile (by omega) | exact okd_dpile (by omega)) ?_
  rw [hd.1]
  refine g_if_eq (tgt := 43) hX dX6_letGo_16 (by decide) ⟨by omega, by omega⟩ (fun a1 => ?_) (fun a1 => ?_)
  · exact no (by omega)
  refine g_aload_n hX dX6_letGo_19 rfl ?_
  refine gf_X6_127 hX dX6_letGo_20 (by first | assumption | exact okd_part (by omega) | exact okd_bed (by omega) | exact okd_pile (by omega) | exact okd_dpile (by omega)) ?_
  refine g_sipush hX dX6_letGo_23 rfl ?_
  rw [hd.2.2.1]
  refine g_icmp_lt (tgt := 43) hX dX6_letGo_26 (by decide) ⟨by omega, by omega⟩ ⟨by omega, by omega⟩ (fun a2 => ?_) (fun a2 => ?_)
  · exact no (by omega)
  refine g_aload_n hX dX6_letGo_29 rfl ?_
  refine gf_X6_111 hX dX6_letGo_30 ?_
  refine g_aload_n hX dX6_letGo_33 rfl ?_
  refine gf_X6_130 hX dX6_letGo_34 (by first | assumption | exact okd_part (by omega) | exact okd_bed (by omega) | exact okd_pile (by omega) | exact okd_dpile (by omega)) ?_
  refine g_isub hX dX6_letGo_37 ?_
  refine g_bipush hX dX6_letGo_38 rfl ?_
  rw [hh, hd.2.2.2]
  refine g_icmp_ge (tgt := 46) hX dX6_letGo_40 (by decide) ⟨by omega, by omega⟩ ⟨by omega, by omega⟩ (fun a3 => ?_) (fun a3 => ?_)
  rotate_left
  · exact no (by omega)
  rw [if_neg (by omega)] at hR
  obtain ⟨K, hK⟩ : ∃ K : Nat, m 9 t = (K : Int) := ⟨(m 9 t).toNat, by omega⟩
  obtain ⟨q1, q2, q3⟩ := bed_q hM ht3 hmN
  have loop : ∀ (d i k : Nat) (ν : Mem), i + d = N → k ≤ K → (∀ j, j < k → qB m t j < i) → (∀ j, k ≤ j → j < K → i ≤ qB m t j) → RelXM ν (lgK m t k) → vw ν = vw μ →
      G V E ν 51 [some (vr V 63), some (vi (t : Int)), some (vr V (40 + t)), some (vi (looseK m t k)), some (vi (i : Int)), none] [] := by
    intro d
    induction d with
    | zero =>
      intro i k ν hi hk hlo hhi hRk hv
      have hkK : k = K := by
        apply Classical.byContradiction
        intro hne
        have h1 := hhi k (by omega) (by omega)
        have h2 := (q1 k (by omega)).2.1
        omega
      have hX6 : ν 63 6 = (N : Int) := by rw [hRk.1.1, lgK_ne m t (by omega)]; exact hmN
      refine g_iload hX dX6_letGo_51 rfl ?_
      refine g_aload_n hX dX6_letGo_53 rfl ?_
      refine gf_X6_59 hX dX6_letGo_54 ?_
      refine g_icmp_ge (tgt := 141) hX dX6_letGo_57 (by decide) ⟨by omega, by omega⟩ ⟨by omega, by omega⟩ (fun _ => ?_) (fun hc => absurd hc (by omega))
      refine g_aload_n hX dX6_letGo_141 rfl ?_
      refine g_v0V hX lk_X6_153 dX6_letGo_142 (c0 := 0) (by first | assumption | exact okd_part (by omega) | exact okd_bed (by omega) | exact okd_pile (by omega) | exact okd_dpile (by omega)) ⟨_, rfl, rfl⟩ (c_bclear hI (okd_bed ht3)) (by first | decide | omega) (by decide) rfl (Nat.le_of_ble_eq_true rfl) (fun μ' hp => ?_)
      rw [hp]
      clear hp μ'
      refine g_iload_n hX dX6_letGo_145 rfl ?_
      refine g_iret hX hR dX6_letGo_146 ⟨_, rfl, ?_, ?_, ?_⟩
      · show looseK m t k = looseK m t (m 9 t).toNat
        rw [hkK, hK]; rfl
      · show RelXM _ (mset (mset (lgK m t (m 9 t).toNat) 9 t 0) 11 t 0)
        rw [hK, show ((K : Int)).toNat = K from rfl, ← hkK]
        exact R_bcl hRk ht3
      · rw [vw_out (by omega), vw_out (by omega), vw_out (by omega), hv]
    | succ d ih =>
      intro i k ν hi hk hlo hhi hRk hv
      have hX6 : ν 63 6 = (N : Int) := by rw [hRk.1.1, lgK_ne m t (by omega)]; exact hmN
      have hpi := IM_p hM (i := i) (by omega)
      have eo : ∀ c, lgK m t k c i = m c i := fun c => lgK_out m t k (fun j hj e => by have := hlo j hj; omega)
      have g0 : lgK m t k 0 0 = m 0 0 := lgK_ne m t (by omega) k
      have ef : ∀ j, j < 8 → ν i j = m (1 + j) i := fun j hj => by rw [rel_p hRk (by rw [g0]; omega) (by omega) hj, eo]
      have e0 := ef 0 (by decide)
      have e1 := ef 1 (by decide)
      have e4 := ef 4 (by decide)
      have e5 := ef 5 (by decide)
      have e7 := ef 7 (by decide)
      have eb := (hRk.2.2.1 t ht3).2.2.1
      rw [lgK_ne m t (by omega)] at eb
      have skip : ¬ (m 5 i = 1 ∧ m 6 i = (t : Int)) → G V E ν 135 [some (vr V 63), some (vi (t : Int)), some (vr V (40 + t)), some (vi (looseK m t k)), some (vi (i : Int)), some (vr V i)] [] := fun h => by
        refine st_iinc_6_4 hX dX6_letGo_135 (by first | exact ck_i _ | exact ck_r _ _ | exact ck_n | exact ck_0) ?_
        refine g_goto (tgt := 51) hX dX6_letGo_138 (by decide) ?_
        refine fg_6_5 ?_
        refine ih (i + 1) k ν (by omega) hk (fun j hj => by have := hlo j hj; omega) (fun j hj hjK => ?_) hRk hv
        have h1 := hhi j hj hjK
        have h2 := q1 j (by omega)
        by_cases e : qB m t j = i
        · rw [e] at h2; exact absurd ⟨h2.2.2.1, h2.2.2.2⟩ h
        · omega
      refine g_iload hX dX6_letGo_51 rfl ?_
      refine g_aload_n hX dX6_letGo_53 rfl ?_
      refine gf_X6_59 hX dX6_letGo_54 ?_
      refine g_icmp_ge (tgt := 141) hX dX6_letGo_57 (by decide) ⟨by omega, by omega⟩ ⟨by omega, by omega⟩ (fun hc => absurd hc (by omega)) (fun _ => ?_)
      refine g_aload_n hX dX6_letGo_60 rfl ?_
      refine g_iload hX dX6_letGo_61 rfl ?_
      refine g_v1R hX lk_X6_66 dX6_letGo_63 (c0 := 6) ok63 ⟨_, rfl, rfl⟩ (c_partOf hI hX6 hN40 ⟨by omega, by omega⟩) (by first | decide | omega) (by decide) rfl (Nat.le_of_ble_eq_true rfl) (fun r μ' hp => ?_)
      obtain ⟨rfl, hm⟩ := hp
      rw [hm]
      clear hm μ'
      rw [if_pos (by omega), show ((i : Int)).toNat = i from rfl]
      show G V E ν 66 _ (vr V i :: [])
      refine st_astore_6_5 hX dX6_letGo_66 (by first | exact ck_i _ | exact ck_r _ _ | exact ck_n | exact ck_0) ?_
      refine g_aload hX dX6_letGo_68 rfl ?_
      refine g_ifnull hX dX6_letGo_70 ?_
      refine g_aload hX dX6_letGo_73 rfl ?_
      refine gf_X6_133 hX dX6_letGo_75 (by first | assumption | exact okd_part (by omega) | exact okd_bed (by omega) | exact okd_pile (by omega) | exact okd_dpile (by omega)) ?_
      refine g_iconst hX dX6_letGo_78 ?_
      rw [e4]
      show G V E ν 79 _ (vi 1 :: vi (m 5 i) :: [])
      refine g_icmp_ne (tgt := 135) hX dX6_letGo_79 (by decide) ⟨by omega, by omega⟩ ⟨by omega, by omega⟩ (fun c1 => ?_) (fun c1 => ?_)
      · exact skip (fun h => c1 h.1)
      refine g_aload hX dX6_letGo_82 rfl ?_
      refine gf_X6_136 hX dX6_letGo_84 (by first | assumption | exact okd_part (by omega) | exact okd_bed (by omega) | exact okd_pile (by omega) | exact okd_dpile (by omega)) ?_
      refine g_iload_n hX dX6_letGo_87 rfl ?_
      rw [e5]
      show G V E ν 88 _ (vi (t : Int) :: vi (m 6 i) :: [])
      refine g_icmp_eq (tgt := 94) hX dX6_letGo_88 (by decide) ⟨by omega, by omega⟩ ⟨by omega, by omega⟩ (fun c2 => ?_) (fun c2 => ?_)
      rotate_left
      · refine g_goto (tgt := 135) hX dX6_letGo_91 (by decide) ?_
        exact skip (fun h => c2 h.2)
      obtain ⟨j, hj, ej⟩ := q3 i (by omega) c1 c2
      have hjk : j = k := by
        apply Classical.byContradiction
        intro hne
        rcases Nat.lt_or_ge j k with h | h
        · have := hlo j h; omega
        · have h1 := hhi k (Nat.le_refl k) (by omega)
          have h2 := q2 (j - (k + 1)) k (by omega)
          rw [show k + 1 + (j - (k + 1)) = j by omega] at h2
          omega
      subst hjk
      have hwc : ∀ a b : Int, 0 ≤ a ∧ a ≤ 200 → 0 ≤ b ∧ b ≤ 7 → ν i 0 = a → ν i 1 = b → (0 ≤ ν i 0 ∧ ν i 0 ≤ 200) ∧ (0 ≤ ν i 1 ∧ ν i 1 ≤ 7) := fun a b h1 h2 h3 h4 => by rw [h3, h4]; exact ⟨h1, h2⟩
      have hw2 := hwc (m 1 i) (m 2 i) (by omega) (by omega) e0 e1
      refine g_aload hX dX6_letGo_94 rfl ?_
      refine g_aload hX dX6_letGo_96 rfl ?_
      refine g_aload_n hX dX6_letGo_98 rfl ?_
      refine gf_X6_127 hX dX6_letGo_99 (by first | assumption | exact okd_part (by omega) | exact okd_bed (by omega) | exact okd_pile (by omega) | exact okd_dpile (by omega)) ?_
      rw [eb]
      refine g_s2I hX lk_X6_139 dX6_letGo_102 (c_camberOf hI (okd_part (by omega)) hw2.1 hw2.2 (by omega)) (by decide) (by decide) rfl (Nat.le_of_ble_eq_true rfl) (fun z μ' hp => ?_)
      obtain ⟨rfl, hm⟩ := hp
      rw [hm]
      clear hm μ'
      rw [show ν i 0 = m 1 i from e0, show ν i 1 = m 2 i from e1]
      show G V E ν 105 _ (vi (camV m t i) :: vr V i :: [])
      refine pf_X6_143 hX dX6_letGo_105 (by first | assumption | exact okd_part (by omega) | exact okd_bed (by omega) | exact okd_pile (by omega) | exact okd_dpile (by omega)) ?_
      refine g_aload hX dX6_letGo_108 rfl ?_
      refine gf_X6_146 hX dX6_letGo_110 (by first | assumption | exact okd_part (by omega) | exact okd_bed (by omega) | exact okd_pile (by omega) | exact okd_dpile (by omega)) ?_
      simp (disch := omega) only [mset_ne, mset_same]
      rw [e7]
      show G V E _ 113 _ (vi (m 8 i) :: [])
      have r1 := R_pf6 (p := i) (v := camV m t i) hRk (by rw [g0]; omega) (by omega)
      have hnx : ∀ j', j + 1 ≤ j' → j' < K → i + 1 ≤ qB m t j' := fun j' h1 h2 => by
        have h3 := q2 (j' - (j + 1)) j (by omega)
        rw [show j + 1 + (j' - (j + 1)) = j' by omega] at h3
        omega
      have hlx : ∀ j', j' < j + 1 → qB m t j' < i + 1 := fun j' h1 => by
        rcases Nat.lt_or_ge j' j with h | h
        · have := hlo j' h; omega
        · rw [show j' = j by omega]; omega
      refine g_if_eq (tgt := 124) hX dX6_letGo_113 (by decide) ⟨by omega, by omega⟩ (fun c3 => ?_) (fun c3 => ?_)
      · have hl : looseK m t (j + 1) = looseK m t j + 1 := by
          show looseK m t j + (if m 8 (qB m t j) = 1 then 0 else 1) = _
          rw [ej, if_neg (by omega)]
        refine g_aload hX dX6_letGo_124 rfl ?_
        refine g_iconst hX dX6_letGo_126 ?_
        refine g_bipush hX dX6_letGo_127 rfl ?_
        refine g_v2V hX lk_X6_104 dX6_letGo_129 (c0 := 4) (by first | assumption | exact okd_part (by omega) | exact okd_bed (by omega) | exact okd_pile (by omega) | exact okd_dpile (by omega)) ⟨_, rfl, rfl⟩ (c_isNow hI (okd_part (by omega))) (by first | decide | omega) (by decide) rfl (Nat.le_of_ble_eq_true rfl) (fun μ' hp => ?_)
        rw [hp]
        clear hp μ'
        refine st_iinc_6_3 hX dX6_letGo_132 (by first | exact ck_i _ | exact ck_r _ _ | exact ck_n | exact ck_0) ?_
        refine st_iinc_6_4 hX dX6_letGo_135 (by first | exact ck_i _ | exact ck_r _ _ | exact ck_n | exact ck_0) ?_
        refine g_goto (tgt := 51) hX dX6_letGo_138 (by decide) ?_
        refine fg_6_5 ?_
        rw [← hl]
        refine ih (i + 1) (j + 1) _ (by omega) (by omega) hlx hnx ?_ (by rw [vw_out (by omega), vw_out (by omega), vw_out (by omega), hv])
        have r2 := R_pf4 (p := i) (v := 2) r1 (by rw [mset_ne (Or.inl (by decide)), g0]; omega) (by omega)
        have r3 := R_pf5 (p := i) (v := -4) r2 (by simp (disch := omega) only [mset_ne]; rw [g0]; omega) (by omega)
        rw [mset_comm (a := 5) (c := 6) (by omega)] at r3
        unfold lgK
        rw [ej, if_neg (by omega), mset_id (a := 8) (b := i) (v := 0) (by simp (disch := omega) only [mset_ne]; rw [eo]; exact c3)]
        exact r3
      · have hl : looseK m t (j + 1) = looseK m t j := by
          show looseK m t j + (if m 8 (qB m t j) = 1 then 0 else 1) = _
          rw [ej, if_pos (by omega), Int.add_zero]
        refine g_aload hX dX6_letGo_116 rfl ?_
        refine g_v0V hX lk_X6_150 dX6_letGo_118 (c0 := 4) (by first | assumption | exact okd_part (by omega) | exact okd_bed (by omega) | exact okd_pile (by omega) | exact okd_dpile (by omega)) ⟨_, rfl, rfl⟩ (c_isStruck hI (okd_part (by omega))) (by first | decide | omega) (by decide) rfl (Nat.le_of_ble_eq_true rfl) (fun μ' hp => ?_)
        rw [hp]
        clear hp μ'
        refine g_goto (tgt := 135) hX dX6_letGo_121 (by decide) ?_
        refine st_iinc_6_4 hX dX6_letGo_135 (by first | exact ck_i _ | exact ck_r _ _ | exact ck_n | exact ck_0) ?_
        refine g_goto (tgt := 51) hX dX6_letGo_138 (by decide) ?_
        refine fg_6_5 ?_
        rw [← hl]
        refine ih (i + 1) (j + 1) _ (by omega) (by omega) hlx hnx ?_ (by rw [vw_out (by omega), vw_out (by omega), vw_out (by omega), vw_out (by omega), hv])
        have r2 := R_pf4 (p := i) (v := 5) r1 (by rw [mset_ne (Or.inl (by decide)), g0]; omega) (by omega)
        have r3 := R_pf5 (p := i) (v := -4) r2 (by simp (disch := omega) only [mset_ne]; rw [g0]; omega) (by omega)
        have r4 := R_pf7 (p := i) (v := 0) r3 (by simp (disch := omega) only [mset_ne]; rw [g0]; omega) (by omega)
        rw [mset_comm (a := 5) (c := 6) (by omega)] at r4
        unfold lgK
        rw [ej, if_pos (by omega)]
        exact r4
  refine g_iconst hX dX6_letGo_46 ?_
  refine st_istore_n_6_3 hX dX6_letGo_47 (by first | exact ck_i _ | exact ck_r _ _ | exact ck_n | exact ck_0) ?_
  refine g_iconst hX dX6_letGo_48 ?_
  refine st_istore_6_4 hX dX6_letGo_49 (by first | exact ck_i _ | exact ck_r _ _ | exact ck_n | exact ck_0) ?_
  exact loop N 0 0 μ (by omega) (by omega) (fun j hj => absurd hj (by omega)) (fun j _ _ => Nat.zero_le _) hR0 rfl
/-! cast -/
def lastP (m : Mem) (f : Nat) (bits : Int) : Nat → Int
  | 0 => -1
  | k + 1 => if bitZ bits k = true then m 2 (f + k) else lastP m f bits k
def okB (m : Mem) (f : Nat) (bits : Int) : Nat → Bool
  | 0 => true
  | k + 1 => okB m f bits k && (!bitZ bits k || (decide (m 5 (f + k) = 0) && (decide (lastP m f bits k < 0) || decide (m 2 (f + k) = lastP m f bits k))))
def sumB (m : Mem) (f : Nat) (bits : Int) : Nat → Int
  | 0 => -4
  | k + 1 => if bitZ bits k = true then sumB m f bits k + (m 1 (f + k) + 4) else sumB m f bits k
def cntB (bits : Int) : Nat → Nat
  | 0 => 0
  | k + 1 => if bitZ bits k = true then cntB bits k + 1 else cntB bits k
def addB (m : Mem) (b q : Nat) : Mem := mset (mset (mset (mset (mset m 5 q 1) 6 q (b : Int)) 10 (40 * b + (m 9 b).toNat) (q : Int)) 9 b (m 9 b + 1)) 12 b (m 0 14)
def cstR (m : Mem) (b f : Nat) (bits : Int) : Nat → Mem
  | 0 => m
  | k + 1 => if bitZ bits k = true then addB (cstR m b f bits k) b (f + k) else cstR m b f bits k
def inB (m : Mem) (f : Nat) (bits : Int) : Prop := ∀ k, k < 32 → bitZ bits k = true → ((f + k : Nat) : Int) < m 0 0
theorem inB_dec (m : Mem) (f : Nat) (bits : Int) : inB m f bits ↔ ((List.range 32).all (fun k => !bitZ bits k || decide (((f + k : Nat) : Int) < m 0 0))) = true := by
  unfold inB
  simp only [List.all_eq_true, List.mem_range, Bool.or_eq_true, Bool.not_eq_true', decide_eq_true_eq]
  constructor
  · intro h k hk
    by_cases hb : bitZ bits k = true
    · exact Or.inr (h k hk hb)
    · exact Or.inl (by simpa using hb)
  · intro h k hk hb
    rcases h k hk with h | h
    · rw [hb] at h; cases h
    · exact h
def inBb (m : Mem) (f : Nat) (bits : Int) : Bool := (List.range 32).all (fun k => !bitZ bits k || decide (((f + k : Nat) : Int) < m 0 0))
def spCast (m : Mem) (b f bits : Int) : Int × Mem :=
  if (0 ≤ b ∧ b < 3) ∧ (0 ≤ f ∧ f < m 0 0) ∧ bits ≠ 0 ∧ inBb m f.toNat bits = true then
    (if m 9 b.toNat = 0 ∧ okB m f.toNat bits 32 = true ∧ sumB m f.toNat bits 32 ≤ 300 then ((cntB bits 32 : Int), mset (cstR m b.toNat f.toNat bits 32) 0 20 (m 0 20 + 1)) else (-2, m)) else (-1, m)
theorem okB_f {m : Mem} {f : Nat} {bits : Int} : ∀ (d k : Nat), okB m f bits k = false → okB m f bits (k + d) = false := by
  intro d
  induction d with
  | zero => intro k h; exact h
  | succ d ih =>
    intro k h
    have := ih k h
    show (okB m f bits (k + d) && _) = false
    rw [this, Bool.false_and]
set_option maxHeartbeats 4000000 in
theorem c_areParts {lnch : Launch} {V : VX} (hI : InjV V) {μ : Mem} {m : Mem} {f n : Nat} {bits : Int} (hn : μ 63 6 = (n : Int)) (hmn : m 0 0 = (n : Int)) (hn40 : n ≤ 40) (hf : f < n) : Ct lnch yX6_areParts cX6_areParts 4 (some .boolean) 2 V [vr V 63, vi (f : Int), vi bits] μ (pI (fun z μ' => ((z = 1 ∧ inB m f bits) ∨ (z = 0 ∧ ¬ inB m f bits)) ∧ μ' = μ)) := by
  refine Ct_of (by decide) hI (Nat.le_of_ble_eq_true rfl) (fun E hE hX hR => ?_)
  have hX : OkX V E RX6 cX6_areParts 4 2 := hX
  show G V E μ 0 [some (vr V 63), some (vi (f : Int)), some (vi bits), none] []
  have loop : ∀ (d k : Nat), k + d = 32 → (∀ j, j < k → bitZ bits j = true → f + j < n) → G V E μ 2 [some (vr V 63), some (vi (f : Int)), some (vi bits), some (vi (k : Int))] [] := by
    intro d
    induction d with
    | zero =>
      intro k hk hj
      refine g_iload_n hX dX6_areParts_2 rfl ?_
      refine g_bipush hX dX6_areParts_3 rfl ?_
      refine g_icmp_ge (tgt := 34) hX dX6_areParts_5 (by decide) ⟨by omega, by omega⟩ ⟨by omega, by omega⟩ (fun _ => ?_) (fun hc => absurd hc (by omega))
      refine g_iconst hX dX6_areParts_34 ?_
      refine g_zret hX hR dX6_areParts_35 (Or.inr rfl) ⟨_, rfl, Or.inl ⟨rfl, fun j h1 h2 => by rw [hmn]; have := hj j (by omega) h2; omega⟩, rfl⟩
    | succ d ih =>
      intro k hk hj
      refine g_iload_n hX dX6_areParts_2 rfl ?_
      refine g_bipush hX dX6_areParts_3 rfl ?_
      refine g_icmp_ge (tgt := 34) hX dX6_areParts_5 (by decide) ⟨by omega, by omega⟩ ⟨by omega, by omega⟩ (fun hc => absurd hc (by omega)) (fun _ => ?_)
      refine g_iload_n hX dX6_areParts_8 rfl ?_
      refine g_iload_n hX dX6_areParts_9 rfl ?_
      refine g_s2I hX lk_X6_101 dX6_areParts_10 (c_hasBit hI (by omega)) (by decide) (by decide) rfl (Nat.le_of_ble_eq_true rfl) (fun z μ' hp => ?_)
      obtain ⟨rfl, hm⟩ := hp
      rw [hm]
      clear hm μ'
      by_cases hb : bitZ bits k = true
      · rw [if_pos hb]
        refine g_if_eq (tgt := 28) hX dX6_areParts_13 (by decide) ⟨by omega, by omega⟩ (fun hc => absurd hc (by omega)) (fun _ => ?_)
        refine g_aload_n hX dX6_areParts_16 rfl ?_
        refine g_iload_n hX dX6_areParts_17 rfl ?_
        refine g_iload_n hX dX6_areParts_18 rfl ?_
        refine g_iadd hX dX6_areParts_19 ?_
        refine g_v1R hX lk_X6_66 dX6_areParts_20 (c0 := 6) ok63 ⟨_, rfl, rfl⟩ (c_partOf hI hn hn40 ⟨by omega, by omega⟩) (by first | decide | omega) (by decide) rfl (Nat.le_of_ble_eq_true rfl) (fun r μ' hp => ?_)
        obtain ⟨rfl, hm⟩ := hp
        rw [hm]
        clear hm μ'
        by_cases hr : f + k < n
        · rw [if_pos (by omega), show ((f : Int) + (k : Int)).toNat = f + k by omega]
          show G V E μ 23 _ (vr V (f + k) :: [])
          refine g_ifnonnull (tgt := 28) hX dX6_areParts_23 (by decide) ?_
          refine st_iinc_4_3 hX dX6_areParts_28 (by first | exact ck_i _ | exact ck_r _ _ | exact ck_n | exact ck_0) ?_
          refine g_goto (tgt := 2) hX dX6_areParts_31 (by decide) ?_
          refine ih (k + 1) (by omega) (fun j h1 h2 => ?_)
          by_cases e : j = k
          · rw [e]; exact hr
          · exact hj j (by omega) h2
        · rw [if_neg (by omega)]
          show G V E μ 23 _ (Value.null :: [])
          refine g_ifnonnullN hX dX6_areParts_23 ?_
          refine g_iconst hX dX6_areParts_26 ?_
          refine g_zret hX hR dX6_areParts_27 (Or.inl rfl) ⟨_, rfl, Or.inr ⟨rfl, fun h => by have := h k (by omega) hb; rw [hmn] at this; omega⟩, rfl⟩
      · rw [if_neg hb]
        refine g_if_eq (tgt := 28) hX dX6_areParts_13 (by decide) ⟨by omega, by omega⟩ (fun _ => ?_) (fun hc => absurd hc (by omega))
        refine st_iinc_4_3 hX dX6_areParts_28 (by first | exact ck_i _ | exact ck_r _ _ | exact ck_n | exact ck_0) ?_
        refine g_goto (tgt := 2) hX dX6_areParts_31 (by decide) ?_
        refine ih (k + 1) (by omega) (fun j h1 h2 => ?_)
        by_cases e : j = k
        · rw [e] at h2; exact absurd h2 hb
        · exact hj j (by omega) h2
  refine g_iconst hX dX6_areParts_0 ?_
  refine st_istore_n_4_3 hX dX6_areParts_1 (by first | exact ck_i _ | exact ck_r _ _ | exact ck_n | exact ck_0) ?_
  exact loop 32 0 (by omega) (fun j h => absurd h (by omega))
theorem lastP_r {c : Nat} {m : Mem} {f : Nat} {bits : Int} (hM : IM c m) (hin : inB m f bits) : ∀ k, k ≤ 32 → -1 ≤ lastP m f bits k ∧ lastP m f bits k ≤ 7 := by
  intro k
  induction k with
  | zero => intro _; exact ⟨Int.le_refl _, (by decide : (-1 : Int) ≤ 7)⟩
  | succ k ih =>
    intro hk
    unfold lastP
    by_cases hb : bitZ bits k = true
    · rw [if_pos hb]
      have := (IM_p hM (i := f + k) (hin k (by omega) hb)).2.1
      omega
    · rw [if_neg hb]; exact ih (by omega)
theorem sumB_r {c : Nat} {m : Mem} {f : Nat} {bits : Int} (hM : IM c m) (hin : inB m f bits) : ∀ k, k ≤ 32 → -4 ≤ sumB m f bits k ∧ sumB m f bits k ≤ 204 * (k : Int) := by
  intro k
  induction k with
  | zero => intro _; exact ⟨Int.le_refl _, (by decide : (-4 : Int) ≤ 204 * ((0 : Nat) : Int))⟩
  | succ k ih =>
    intro hk
    have h := ih (by omega)
    unfold sumB
    by_cases hb : bitZ bits k = true
    · rw [if_pos hb]
      have := (IM_p hM (i := f + k) (hin k (by omega) hb)).1
      omega
    · rw [if_neg hb]; omega
set_option maxHeartbeats 4000000 in
theorem c_areDAF {lnch : Launch} {V : VX} (hI : InjV V) {μ : Mem} {m : Mem} {c f n : Nat} {bits : Int} (hR0 : RelXM μ m) (hM : IM c m) (hn : μ 63 6 = (n : Int)) (hmn : m 0 0 = (n : Int)) (hn40 : n ≤ 40) (hf : f < n) (hin : inB m f bits) : Ct lnch yX6_areDrawnAndFit cX6_areDrawnAndFit 7 (some .boolean) 2 V [vr V 63, vi (f : Int), vi bits] μ (pI (fun z μ' => ((z = 1 ∧ okB m f bits 32 = true ∧ sumB m f bits 32 ≤ 300) ∨ (z = 0 ∧ ¬ (okB m f bits 32 = true ∧ sumB m f bits 32 ≤ 300))) ∧ μ' = μ)) := by
  refine Ct_of (by decide) hI (Nat.le_of_ble_eq_true rfl) (fun E hE hX hR => ?_)
  have hX : OkX V E RX6 cX6_areDrawnAndFit 7 2 := hX
  show G V E μ 0 [some (vr V 63), some (vi (f : Int)), some (vi bits), none, none, none, none] []
  have loop : ∀ (d k : Nat), k + d = 32 → okB m f bits k = true → G V E μ 10 [some (vr V 63), some (vi (f : Int)), some (vi bits), some (vi (if lastP m f bits k < 0 then -4 else lastP m f bits k)), some (vi (sumB m f bits k)), some (vi (k : Int)), none] [] := by
    intro d
    induction d with
    | zero =>
      intro k hk hok
      obtain rfl : k = 32 := by omega
      have hs := sumB_r hM hin 32 (by decide)
      refine g_iload hX dX6_areDrawnAndFit_10 rfl ?_
      refine g_bipush hX dX6_areDrawnAndFit_12 rfl ?_
      refine g_icmp_ge (tgt := 93) hX dX6_areDrawnAndFit_14 (by decide) ⟨by omega, by omega⟩ ⟨by omega, by omega⟩ (fun _ => ?_) (fun hc => absurd hc (by omega))
      refine g_iload hX dX6_areDrawnAndFit_93 rfl ?_
      refine g_sipush hX dX6_areDrawnAndFit_95 rfl ?_
      refine g_icmp_gt (tgt := 105) hX dX6_areDrawnAndFit_98 (by decide) ⟨by omega, by omega⟩ ⟨by omega, by omega⟩ (fun h1 => ?_) (fun h1 => ?_)
      · refine g_iconst hX dX6_areDrawnAndFit_105 ?_
        refine g_zret hX hR dX6_areDrawnAndFit_106 (Or.inl rfl) ⟨_, rfl, Or.inr ⟨rfl, fun h => by omega⟩, rfl⟩
      · refine g_iconst hX dX6_areDrawnAndFit_101 ?_
        refine g_goto (tgt := 106) hX dX6_areDrawnAndFit_102 (by decide) ?_
        refine g_zret hX hR dX6_areDrawnAndFit_106 (Or.inr rfl) ⟨_, rfl, Or.inl ⟨rfl, hok, by omega⟩, rfl⟩
    | succ d ih =>
      intro k hk hok
      refine g_iload hX dX6_areDrawnAndFit_10 rfl ?_
      refine g_bipush hX dX6_areDrawnAndFit_12 rfl ?_
      refine g_icmp_ge (tgt := 93) hX dX6_areDrawnAndFit_14 (by decide) ⟨by omega, by omega⟩ ⟨by omega, by omega⟩ (fun hc => absurd hc (by omega)) (fun _ => ?_)
      refine g_iload_n hX dX6_areDrawnAndFit_17 rfl ?_
      refine g_iload hX dX6_areDrawnAndFit_18 rfl ?_
      refine g_s2I hX lk_X6_101 dX6_areDrawnAndFit_20 (c_hasBit hI (by omega)) (by decide) (by decide) rfl (Nat.le_of_ble_eq_true rfl) (fun z μ' hp => ?_)
      obtain ⟨rfl, hm⟩ := hp
      rw [hm]
      clear hm μ'
      by_cases hb : bitZ bits k = true
      rotate_left
      · rw [if_neg hb]
        refine g_if_ne (tgt := 29) hX dX6_areDrawnAndFit_23 (by decide) ⟨by omega, by omega⟩ (fun hc => absurd hc (by omega)) (fun _ => ?_)
        refine g_goto (tgt := 87) hX dX6_areDrawnAndFit_26 (by decide) ?_
        refine st_iinc_7_5 hX dX6_areDrawnAndFit_87 (by first | exact ck_i _ | exact ck_r _ _ | exact ck_n | exact ck_0) ?_
        refine g_goto (tgt := 10) hX dX6_areDrawnAndFit_90 (by decide) ?_
        have := ih (k + 1) (by omega) (by show (okB m f bits k && _) = true; rw [hok]; simp [hb])
        unfold lastP sumB at this
        rw [if_neg hb, if_neg hb] at this
        exact this
      rw [if_pos hb]
      have hk2 := hin k (by omega) hb
      have hp := IM_p hM (i := f + k) hk2
      have hlp := lastP_r hM hin k (by omega)
      have e0 := xf0 hR0 (i := f + k) hk2 (by omega)
      have e1 := xf1 hR0 (i := f + k) hk2 (by omega)
      have e4 := xf4 hR0 (i := f + k) hk2 (by omega)
      have bad : okB m f bits (k + 1) = false → G V E μ 67 [some (vr V 63), some (vi (f : Int)), some (vi bits), some (vi (if lastP m f bits k < 0 then -4 else lastP m f bits k)), some (vi (sumB m f bits k)), some (vi (k : Int)), some (vr V (f + k))] [] := fun h => by
        refine g_iconst hX dX6_areDrawnAndFit_67 ?_
        refine g_zret hX hR dX6_areDrawnAndFit_68 (Or.inl rfl) ⟨_, rfl, Or.inr ⟨rfl, fun h2 => ?_⟩, rfl⟩
        have h3 := okB_f (31 - k) (k + 1) h
        rw [show k + 1 + (31 - k) = 32 by omega, h2.1] at h3
        cases h3
      have good : m 5 (f + k) = 0 → (lastP m f bits k < 0 ∨ m 2 (f + k) = lastP m f bits k) → G V E μ 69 [some (vr V 63), some (vi (f : Int)), some (vi bits), some (vi (if lastP m f bits k < 0 then -4 else lastP m f bits k)), some (vi (sumB m f bits k)), some (vi (k : Int)), some (vr V (f + k))] [] := fun h1 h2 => by
        refine g_aload hX dX6_areDrawnAndFit_69 rfl ?_
        refine gf_X6_230 hX dX6_areDrawnAndFit_71 (by first | assumption | exact okd_part (by omega) | exact okd_bed (by omega) | exact okd_pile (by omega) | exact okd_dpile (by omega)) ?_
        refine st_istore_n_7_3 hX dX6_areDrawnAndFit_74 (by first | exact ck_i _ | exact ck_r _ _ | exact ck_n | exact ck_0) ?_
        refine g_iload hX dX6_areDrawnAndFit_75 rfl ?_
        refine g_iconst hX dX6_areDrawnAndFit_77 ?_
        refine g_aload hX dX6_areDrawnAndFit_78 rfl ?_
        refine gf_X6_108 hX dX6_areDrawnAndFit_80 (by first | assumption | exact okd_part (by omega) | exact okd_bed (by omega) | exact okd_pile (by omega) | exact okd_dpile (by omega)) ?_
        refine g_iadd hX dX6_areDrawnAndFit_83 ?_
        refine g_iadd hX dX6_areDrawnAndFit_84 ?_
        refine st_istore_7_4 hX dX6_areDrawnAndFit_85 (by first | exact ck_i _ | exact ck_r _ _ | exact ck_n | exact ck_0) ?_
        refine st_iinc_7_5 hX dX6_areDrawnAndFit_87 (by first | exact ck_i _ | exact ck_r _ _ | exact ck_n | exact ck_0) ?_
        refine g_goto (tgt := 10) hX dX6_areDrawnAndFit_90 (by decide) ?_
        refine fg_7_6 ?_
        rw [e0, e1]
        have := ih (k + 1) (by omega) (by
          show (okB m f bits k && _) = true
          rw [hok, hb]
          rcases h2 with h2 | h2 <;> simp [h1, h2])
        unfold lastP sumB at this
        rw [if_pos hb, if_pos hb, if_neg (by omega)] at this
        rw [show sumB m f bits k + (4 + m 1 (f + k)) = sumB m f bits k + (m 1 (f + k) + 4) by omega]
        exact this
      refine g_if_ne (tgt := 29) hX dX6_areDrawnAndFit_23 (by decide) ⟨by omega, by omega⟩ (fun _ => ?_) (fun hc => absurd hc (by omega))
      refine g_aload_n hX dX6_areDrawnAndFit_29 rfl ?_
      refine g_iload_n hX dX6_areDrawnAndFit_30 rfl ?_
      refine g_iload hX dX6_areDrawnAndFit_31 rfl ?_
      refine g_iadd hX dX6_areDrawnAndFit_33 ?_
      refine g_v1R hX lk_X6_66 dX6_areDrawnAndFit_34 (c0 := 6) ok63 ⟨_, rfl, rfl⟩ (c_partOf hI hn hn40 ⟨by omega, by omega⟩) (by first | decide | omega) (by decide) rfl (Nat.le_of_ble_eq_true rfl) (fun r μ' hp => ?_)
      obtain ⟨rfl, hm⟩ := hp
      rw [hm]
      clear hm μ'
      rw [if_pos (show 0 ≤ (f : Int) + (k : Int) ∧ (f : Int) + (k : Int) < (n : Int) by omega), show ((f : Int) + (k : Int)).toNat = f + k by omega]
      show G V E μ 37 _ (vr V (f + k) :: [])
      refine st_astore_7_6 hX dX6_areDrawnAndFit_37 (by first | exact ck_i _ | exact ck_r _ _ | exact ck_n | exact ck_0) ?_
      refine g_aload hX dX6_areDrawnAndFit_39 rfl ?_
      refine g_ifnull hX dX6_areDrawnAndFit_41 ?_
      refine g_aload hX dX6_areDrawnAndFit_44 rfl ?_
      refine gf_X6_133 hX dX6_areDrawnAndFit_46 (by first | assumption | exact okd_part (by omega) | exact okd_bed (by omega) | exact okd_pile (by omega) | exact okd_dpile (by omega)) ?_
      rw [e4]
      refine g_if_ne (tgt := 67) hX dX6_areDrawnAndFit_49 (by decide) ⟨by omega, by omega⟩ (fun a1 => ?_) (fun a1 => ?_)
      · exact bad (by show (okB m f bits k && _) = false; rw [hb]; simp [a1])
      by_cases hl : lastP m f bits k < 0
      · rw [if_pos hl] at bad good ⊢
        refine g_iload_n hX dX6_areDrawnAndFit_52 rfl ?_
        refine g_bipush hX dX6_areDrawnAndFit_53 rfl ?_
        refine g_icmp_eq (tgt := 69) hX dX6_areDrawnAndFit_55 (by decide) ⟨by omega, by omega⟩ ⟨by omega, by omega⟩ (fun _ => ?_) (fun hc => absurd hc (by omega))
        exact good a1 (Or.inl hl)
      · rw [if_neg hl] at bad good ⊢
        refine g_iload_n hX dX6_areDrawnAndFit_52 rfl ?_
        refine g_bipush hX dX6_areDrawnAndFit_53 rfl ?_
        refine g_icmp_eq (tgt := 69) hX dX6_areDrawnAndFit_55 (by decide) ⟨by omega, by omega⟩ ⟨by omega, by omega⟩ (fun hc => absurd hc (by omega)) (fun _ => ?_)
        refine g_aload hX dX6_areDrawnAndFit_58 rfl ?_
        refine gf_X6_230 hX dX6_areDrawnAndFit_60 (by first | assumption | exact okd_part (by omega) | exact okd_bed (by omega) | exact okd_pile (by omega) | exact okd_dpile (by omega)) ?_
        refine g_iload_n hX dX6_areDrawnAndFit_63 rfl ?_
        rw [e1]
        refine g_icmp_eq (tgt := 69) hX dX6_areDrawnAndFit_64 (by decide) ⟨by omega, by omega⟩ ⟨by omega, by omega⟩ (fun a2 => ?_) (fun a2 => ?_)
        · exact good a1 (Or.inr a2)
        · exact bad (by show (okB m f bits k && _) = false; rw [hb]; simp [a2, hl])
  refine g_bipush hX dX6_areDrawnAndFit_0 rfl ?_
  refine st_istore_n_7_3 hX dX6_areDrawnAndFit_2 (by first | exact ck_i _ | exact ck_r _ _ | exact ck_n | exact ck_0) ?_
  refine g_bipush hX dX6_areDrawnAndFit_3 rfl ?_
  refine st_istore_7_4 hX dX6_areDrawnAndFit_5 (by first | exact ck_i _ | exact ck_r _ _ | exact ck_n | exact ck_0) ?_
  refine g_iconst hX dX6_areDrawnAndFit_7 ?_
  refine st_istore_7_5 hX dX6_areDrawnAndFit_8 (by first | exact ck_i _ | exact ck_r _ _ | exact ck_n | exact ck_0) ?_
  exact loop 32 0 (by omega) rfl
