/-! the class's call casts -/
/-- what the parts of a plan from f on, d of them, come to, with a joint each -/
def Lp (m : Mem) (p f : Nat) : Nat → List Int
  | 0 => []
  | d + 1 => if m 5 (f + d) = 0 ∧ m 2 (f + d) = (p : Int) then (m 1 (f + d) + 4) :: Lp m p f d else Lp m p f d
def cntD (m : Mem) (f : Nat) : Nat → Nat
  | 0 => 0
  | d + 1 => cntD m f d + if m 5 (f + d) = 0 then 1 else 0
theorem Lp_len (m : Mem) (p f : Nat) : ∀ d, (Lp m p f d).length ≤ cntD m f d := by
  intro d
  induction d with
  | zero => exact Nat.le_refl 0
  | succ d ih =>
    unfold Lp cntD
    by_cases h : m 5 (f + d) = 0 ∧ m 2 (f + d) = (p : Int)
    · rw [if_pos h, if_pos h.1]; simp only [List.length_cons]; omega
    · rw [if_neg h]; split <;> omega
theorem cntD_le (m : Mem) (f : Nat) : ∀ d, cntD m f d ≤ d := by
  intro d
  induction d with
  | zero => exact Nat.le_refl 0
  | succ d ih => unfold cntD; split <;> omega
theorem cntD_mono (m : Mem) (f : Nat) : ∀ e d, cntD m f d ≤ cntD m f (d + e) := by
  intro e
  induction e with
  | zero => intro d; exact Nat.le_refl _
  | succ e ih => intro d; have := ih d; show _ ≤ cntD m f (d + e) + _; omega
def nsum (n : Nat → Nat) : Nat → Nat
  | 0 => 0
  | k + 1 => nsum n k + n k
def nup (n : Nat → Nat) (p x : Nat) : Nat → Nat := fun q => if q = p then x else n q
theorem nup_eq {n : Nat → Nat} {p x : Nat} : nup n p x p = x := by unfold nup; rw [if_pos rfl]
theorem nup_ne {n : Nat → Nat} {p x q : Nat} (h : q ≠ p) : nup n p x q = n q := by unfold nup; rw [if_neg h]
def PC0 (m : Mem) (f d : Nat) (z : Int) : Prop := ∃ n : Nat → Nat, (∀ p, p < 8 → Lst (Lp m p f d) (n p)) ∧ z = (nsum n 8 : Int)
def PC1 (m : Mem) (f d : Nat) (z : Int) : Prop := ∃ n : Nat → Nat, (∀ p, p < 8 → ∃ S : List Int, S.Perm (Lp m p f d) ∧ Srt S ∧ n p = FFn S (fun _ => 0) 0) ∧ z = (nsum n 8 : Int)
def ansC (m : Mem) (f t w z : Int) : Prop :=
  ((0 ≤ f ∧ f < m 0 0 ∧ 0 ≤ t ∧ t < m 0 0 ∧ f ≤ t ∧ 0 ≤ w ∧ w ≤ 1 ∧ cntD m f.toNat (t.toNat + 1 - f.toNat) ≤ 12) ∧ ((w = 0 ∧ PC0 m f.toNat (t.toNat + 1 - f.toNat) z) ∨ (w = 1 ∧ PC1 m f.toNat (t.toNat + 1 - f.toNat) z))) ∨
  (¬ (0 ≤ f ∧ f < m 0 0 ∧ 0 ≤ t ∧ t < m 0 0 ∧ f ≤ t ∧ 0 ≤ w ∧ w ≤ 1 ∧ cntD m f.toNat (t.toNat + 1 - f.toNat) ≤ 12) ∧ z = -1)
theorem R_scr {ν ν' m : Mem} (h : RelXM ν m) (hk : ∀ k, k < 53 ∨ k = 63 ∨ k = 67 ∨ k = 68 → ν' k = ν k) : RelXM ν' m := by
  obtain ⟨hA, hB, hC, hD, hE⟩ := h
  refine ⟨by rw [hk 63 (by omega)]; exact hA, fun i j hi hj => by rw [hk i (by omega)]; exact hB i j hi hj, fun b hb => by rw [hk (40 + b) (by omega)]; exact hC b hb, fun s hs => by rw [hk (43 + s) (by omega), hk (48 + s) (by omega)]; exact hD s hs, by rw [hk 67 (by omega), hk 68 (by omega)]; exact hE⟩
theorem vw_scr {ν ν' : Mem} (hk : ∀ k, 76 ≤ k → ν' k = ν k) : vw ν' = vw ν := by
  funext k
  exact hk (76 + k) (by omega)
theorem KPk.tr {a b c : Mem} (h : KPk a b) (h' : KPk b c) : KPk a c := fun k h1 h2 h3 => (h' k h1 h2 h3).trans (h k h1 h2 h3)
set_option maxHeartbeats 4000000 in
theorem c_give {lnch : Launch} {V : VX} (hI : InjV V) {μ : Mem} {m : Mem} {c f t p N : Nat} (hR0 : RelXM μ m) (hM : IM c m) (hN : μ 63 6 = (N : Int)) (hmN : m 0 0 = (N : Int)) (hN40 : N ≤ 40) (hft : f ≤ t) (htN : t < N) (hp : p < 8) (h12 : cntD m f (t + 1 - f) ≤ 12) : Ct lnch yX6_givePacker cX6_givePacker 6 none 3 V [vr V 63, vi (f : Int), vi (t : Int), vi (p : Int)] μ (pV (fun μ' => PkS μ' (Lp m p f (t + 1 - f)) ∧ KPk μ μ')) := by
  refine Ct_of (by decide) hI (Nat.le_of_ble_eq_true rfl) (fun E hE hX hR => ?_)
  have hX : OkX V E RX6 cX6_givePacker 6 3 := hX
  show G V E μ 0 [some (vr V 63), some (vi (f : Int)), some (vi (t : Int)), some (vi (p : Int)), none, none] []
  have loop : ∀ (e d : Nat) (ν : Mem), d + e = t + 1 - f → PkS ν (Lp m p f d) → KPk μ ν → G V E ν 10 [some (vr V 63), some (vi (f : Int)), some (vi (t : Int)), some (vi (p : Int)), some (vi ((f + d : Nat) : Int)), none] [] := by
    intro e
    induction e with
    | zero =>
      intro d ν hd hP hk
      refine g_iload hX dX6_givePacker_10 rfl ?_
      refine g_iload_n hX dX6_givePacker_12 rfl ?_
      refine g_icmp_gt (tgt := 64) hX dX6_givePacker_13 (by decide) ⟨by omega, by omega⟩ ⟨by omega, by omega⟩ (fun _ => ?_) (fun hc => absurd hc (by omega))
      refine g_vret hX hR dX6_givePacker_64 ⟨rfl, by rw [← show d = t + 1 - f by omega]; exact hP, hk⟩
    | succ e ih =>
      intro d ν hd hP hk
      have hkc : ∀ k, k < 53 ∨ k = 63 ∨ k = 67 ∨ k = 68 → ν k = μ k := fun k h => hk k (by omega) (by omega) (by omega)
      have hRν := R_scr hR0 hkc
      have hNν : ν 63 6 = (N : Int) := by rw [hk 63 (by decide) (by decide) (by decide)]; exact hN
      have hmp := IM_p hM (i := f + d) (by omega)
      have e0 := xf0 hRν (i := f + d) (by omega) (by omega)
      have e1 := xf1 hRν (i := f + d) (by omega) (by omega)
      have e4 := xf4 hRν (i := f + d) (by omega) (by omega)
      have skip : ¬ (m 5 (f + d) = 0 ∧ m 2 (f + d) = (p : Int)) → G V E ν 58 [some (vr V 63), some (vi (f : Int)), some (vi (t : Int)), some (vi (p : Int)), some (vi ((f + d : Nat) : Int)), some (vr V (f + d))] [] := fun h => by
        refine st_iinc_6_4 hX dX6_givePacker_58 (by first | exact ck_i _ | exact ck_r _ _ | exact ck_n | exact ck_0) ?_
        refine g_goto (tgt := 10) hX dX6_givePacker_61 (by decide) ?_
        refine fg_6_5 ?_
        have := ih (d + 1) ν (by omega) (by unfold Lp; rw [if_neg h]; exact hP) hk
        rw [show ((f + (d + 1) : Nat) : Int) = ((f + d : Nat) : Int) + 1 by omega] at this
        exact this
      refine g_iload hX dX6_givePacker_10 rfl ?_
      refine g_iload_n hX dX6_givePacker_12 rfl ?_
      refine g_icmp_gt (tgt := 64) hX dX6_givePacker_13 (by decide) ⟨by omega, by omega⟩ ⟨by omega, by omega⟩ (fun hc => absurd hc (by omega)) (fun _ => ?_)
      refine g_aload_n hX dX6_givePacker_16 rfl ?_
      refine g_iload hX dX6_givePacker_17 rfl ?_
      refine g_v1R hX lk_X6_66 dX6_givePacker_19 (c0 := 6) ok63 ⟨_, rfl, rfl⟩ (c_partOf hI hNν hN40 ⟨by omega, by omega⟩) (by first | decide | omega) (by decide) rfl (Nat.le_of_ble_eq_true rfl) (fun r μ' hp => ?_)
      obtain ⟨rfl, hm⟩ := hp
      rw [hm]
      clear hm μ'
      rw [if_pos (by omega), show ((f + d : Nat) : Int).toNat = f + d from rfl]
      show G V E ν 22 _ (vr V (f + d) :: [])
      refine st_astore_6_5 hX dX6_givePacker_22 (by first | exact ck_i _ | exact ck_r _ _ | exact ck_n | exact ck_0) ?_
      refine g_aload hX dX6_givePacker_24 rfl ?_
      refine g_ifnull hX dX6_givePacker_26 ?_
      refine g_aload hX dX6_givePacker_29 rfl ?_
      refine gf_X6_133 hX dX6_givePacker_31 (by first | assumption | exact okd_part (by omega) | exact okd_bed (by omega) | exact okd_pile (by omega) | exact okd_dpile (by omega)) ?_
      rw [e4]
      refine g_if_ne (tgt := 58) hX dX6_givePacker_34 (by decide) ⟨by omega, by omega⟩ (fun h1 => ?_) (fun h1 => ?_)
      · exact skip (fun h => h1 h.1)
      refine g_aload hX dX6_givePacker_37 rfl ?_
      refine gf_X6_230 hX dX6_givePacker_39 (by first | assumption | exact okd_part (by omega) | exact okd_bed (by omega) | exact okd_pile (by omega) | exact okd_dpile (by omega)) ?_
      refine g_iload_n hX dX6_givePacker_42 rfl ?_
      rw [e1]
      refine g_icmp_ne (tgt := 58) hX dX6_givePacker_43 (by decide) ⟨by omega, by omega⟩ ⟨by omega, by omega⟩ (fun h2 => ?_) (fun h2 => ?_)
      · exact skip (fun h => h2 h.2)
      have hl := Lp_len m p f d
      have hcs : cntD m f (d + 1) = cntD m f d + 1 := by
        show cntD m f d + (if m 5 (f + d) = 0 then 1 else 0) = _
        rw [if_pos h1]
      have hcm := cntD_mono m f e (d + 1)
      rw [show d + 1 + e = t + 1 - f by omega] at hcm
      refine g_aload_n hX dX6_givePacker_46 rfl ?_
      refine gf_X6_37 hX dX6_givePacker_47 ?_
      refine g_aload hX dX6_givePacker_50 rfl ?_
      refine gf_X6_108 hX dX6_givePacker_52 (by first | assumption | exact okd_part (by omega) | exact okd_bed (by omega) | exact okd_pile (by omega) | exact okd_dpile (by omega)) ?_
      rw [e0]
      refine g_v1V hX lk_X6_245 dX6_givePacker_55 (c0 := 3) ok69 ⟨_, rfl, rfl⟩ (c_padd hI hP (by omega) hmp.1) (by first | decide | omega) (by decide) rfl (Nat.le_of_ble_eq_true rfl) (fun μ' hp => ?_)
      obtain ⟨hp1, hp2⟩ := hp
      refine st_iinc_6_4 hX dX6_givePacker_58 (by first | exact ck_i _ | exact ck_r _ _ | exact ck_n | exact ck_0) ?_
      refine g_goto (tgt := 10) hX dX6_givePacker_61 (by decide) ?_
      refine fg_6_5 ?_
      have := ih (d + 1) μ' (by omega) (by unfold Lp; rw [if_pos ⟨h1, h2⟩]; exact hp1) (hk.tr hp2)
      rw [show ((f + (d + 1) : Nat) : Int) = ((f + d : Nat) : Int) + 1 by omega] at this
      exact this
  refine g_aload_n hX dX6_givePacker_0 rfl ?_
  refine gf_X6_37 hX dX6_givePacker_1 ?_
  refine g_v0V hX lk_X6_244 dX6_givePacker_4 (c0 := 3) ok69 ⟨_, rfl, rfl⟩ (c_pclr hI) (by first | decide | omega) (by decide) rfl (Nat.le_of_ble_eq_true rfl) (fun μ' hp => ?_)
  obtain ⟨hp1, hp2⟩ := hp
  refine g_iload_n hX dX6_givePacker_7 rfl ?_
  refine st_istore_6_4 hX dX6_givePacker_8 (by first | exact ck_i _ | exact ck_r _ _ | exact ck_n | exact ck_0) ?_
  exact loop (t + 1 - f) 0 μ' (by omega) hp1 hp2
theorem K71.k {μ μ' : Mem} (h : K71 μ μ') : KPk μ μ' := fun k _ _ h3 => h k h3
def XPc (μ m : Mem) (P : Int → Prop) : Int → Mem → Prop := fun z μ' => P z ∧ RelXM μ' m ∧ vw μ' = vw μ
set_option maxHeartbeats 4000000 in
theorem x_casts {lnch : Launch} {V : VX} (hI : InjV V) {μ : Mem} {m : Mem} {c : Nat} {f t w : Int} (hR0 : RelXM μ m) (hM : IM c m) (hf : in32 f) (ht : in32 t) (hw : in32 w) : Ct lnch yX6_casts cX6_casts 7 (some .int) 50 V [vr V 63, vi f, vi t, vi w] μ (pI (XPc μ m (ansC m f t w))) := by
  refine Ct_of (by decide) hI (Nat.le_of_ble_eq_true rfl) (fun E hE hX hR => ?_)
  have hX : OkX V E RX6 cX6_casts 7 50 := hX
  show G V E μ 0 [some (vr V 63), some (vi f), some (vi t), some (vi w), none, none, none] []
  obtain ⟨N, hN40, hmN, hN⟩ := rel_n hR0 hM
  obtain ⟨hw1, hw2⟩ := hw
  have hft := hf
  have htt := ht
  obtain ⟨hf1, hf2⟩ := hft
  obtain ⟨ht1, ht2⟩ := htt
  have bad : ¬ (0 ≤ f ∧ f < m 0 0 ∧ 0 ≤ t ∧ t < m 0 0 ∧ f ≤ t ∧ 0 ≤ w ∧ w ≤ 1 ∧ cntD m f.toNat (t.toNat + 1 - f.toNat) ≤ 12) → G V E μ 30 [some (vr V 63), some (vi f), some (vi t), some (vi w), none, none, none] [] := fun h => by
    refine g_iconst hX dX6_casts_30 ?_
    refine g_iret hX hR dX6_casts_31 ⟨_, rfl, Or.inr ⟨h, rfl⟩, hR0, rfl⟩
  refine g_aload_n hX dX6_casts_0 rfl ?_
  refine g_iload_n hX dX6_casts_1 rfl ?_
  refine g_v1R hX lk_X6_66 dX6_casts_2 (c0 := 6) ok63 ⟨_, rfl, rfl⟩ (c_partOf hI hN hN40 hf) (by first | decide | omega) (by decide) rfl (Nat.le_of_ble_eq_true rfl) (fun r μ' hp => ?_)
  obtain ⟨rfl, hm⟩ := hp
  rw [hm]
  clear hm μ'
  by_cases h1 : 0 ≤ f ∧ f < (N : Int)
  rotate_left
  · rw [if_neg h1]
    show G V E μ 5 _ (Value.null :: [])
    refine g_ifnullN (tgt := 30) hX dX6_casts_5 (by decide) ?_
    exact bad (by omega)
  rw [if_pos h1]
  show G V E μ 5 _ (vr V f.toNat :: [])
  refine g_ifnull hX dX6_casts_5 ?_
  refine g_aload_n hX dX6_casts_8 rfl ?_
  refine g_iload_n hX dX6_casts_9 rfl ?_
  refine g_v1R hX lk_X6_66 dX6_casts_10 (c0 := 6) ok63 ⟨_, rfl, rfl⟩ (c_partOf hI hN hN40 ht) (by first | decide | omega) (by decide) rfl (Nat.le_of_ble_eq_true rfl) (fun r μ' hp => ?_)
  obtain ⟨rfl, hm⟩ := hp
  rw [hm]
  clear hm μ'
  by_cases h2 : 0 ≤ t ∧ t < (N : Int)
  rotate_left
  · rw [if_neg h2]
    show G V E μ 13 _ (Value.null :: [])
    refine g_ifnullN (tgt := 30) hX dX6_casts_13 (by decide) ?_
    exact bad (by omega)
  rw [if_pos h2]
  show G V E μ 13 _ (vr V t.toNat :: [])
  refine g_ifnull hX dX6_casts_13 ?_
  refine g_iload_n hX dX6_casts_16 rfl ?_
  refine g_iload_n hX dX6_casts_17 rfl ?_
  refine g_icmp_gt (tgt := 30) hX dX6_casts_18 (by decide) ⟨by omega, by omega⟩ ⟨by omega, by omega⟩ (fun h3 => ?_) (fun h3 => ?_)
  · exact bad (by omega)
  refine g_iload_n hX dX6_casts_21 rfl ?_
  refine g_if_lt (tgt := 30) hX dX6_casts_22 (by decide) ⟨by omega, by omega⟩ (fun h4 => ?_) (fun h4 => ?_)
  · exact bad (by omega)
  refine g_iload_n hX dX6_casts_25 rfl ?_
  refine g_iconst hX dX6_casts_26 ?_
  refine g_icmp_le (tgt := 32) hX dX6_casts_27 (by decide) ⟨by omega, by omega⟩ ⟨by omega, by omega⟩ (fun h5 => ?_) (fun h5 => ?_)
  rotate_left
  · exact bad (by omega)
  obtain ⟨g, rfl⟩ : ∃ g : Nat, f = (g : Int) := ⟨f.toNat, by omega⟩
  obtain ⟨s, rfl⟩ : ∃ s : Nat, t = (s : Int) := ⟨t.toNat, by omega⟩
  have hcle := cntD_le m g (s + 1 - g)
  have plans : cntD m g (s + 1 - g) ≤ 12 → ∀ (e p : Nat) (ν : Mem) (n : Nat → Nat), p + e = 8 → KPk μ ν →
      (w = 0 → ∀ q, q < p → Lst (Lp m q g (s + 1 - g)) (n q)) → (w = 1 → ∀ q, q < p → ∃ S : List Int, S.Perm (Lp m q g (s + 1 - g)) ∧ Srt S ∧ n q = FFn S (fun _ => 0) 0) → (∀ q, q < p → n q ≤ 12) → nsum n p ≤ 12 * p →
      G V E ν 80 [some (vr V 63), some (vi (g : Int)), some (vi (s : Int)), some (vi w), some (vi (cntD m g (s + 1 - g) : Int)), some (vi (nsum n p : Int)), some (vi (p : Int))] [] := fun h12 => by
    intro e
    induction e with
    | zero =>
      intro p ν n hp hk hw0 hw1 hn12 hns
      obtain rfl : p = 8 := by omega
      refine g_iload hX dX6_casts_80 rfl ?_
      refine g_bipush hX dX6_casts_82 rfl ?_
      refine g_icmp_ge (tgt := 127) hX dX6_casts_84 (by decide) ⟨by omega, by omega⟩ ⟨by omega, by omega⟩ (fun _ => ?_) (fun hc => absurd hc (by omega))
      refine g_iload hX dX6_casts_127 rfl ?_
      have hwc : w = 0 ∨ w = 1 := by omega
      refine g_iret hX hR dX6_casts_129 ⟨_, rfl, Or.inl ⟨⟨by omega, by omega, by omega, by omega, by omega, by omega, by omega, h12⟩, ?_⟩, R_scr hR0 (fun k h => hk k (by omega) (by omega) (by omega)), vw_scr (fun k h => hk k (by omega) (by omega) (by omega))⟩
      rcases hwc with h | h
      · exact Or.inl ⟨h, n, hw0 h, rfl⟩
      · exact Or.inr ⟨h, n, hw1 h, rfl⟩
    | succ e ih =>
      intro p ν n hp hk hw0 hw1 hn12 hns
      have hRν : RelXM ν m := R_scr hR0 (fun k h => hk k (by omega) (by omega) (by omega))
      have hNν : ν 63 6 = (N : Int) := by rw [hk 63 (by decide) (by decide) (by decide)]; exact hN
      refine g_iload hX dX6_casts_80 rfl ?_
      refine g_bipush hX dX6_casts_82 rfl ?_
      refine g_icmp_ge (tgt := 127) hX dX6_casts_84 (by decide) ⟨by omega, by omega⟩ ⟨by omega, by omega⟩ (fun hc => absurd hc (by omega)) (fun _ => ?_)
      refine g_aload_n hX dX6_casts_87 rfl ?_
      refine g_iload_n hX dX6_casts_88 rfl ?_
      refine g_iload_n hX dX6_casts_89 rfl ?_
      refine g_iload hX dX6_casts_90 rfl ?_
      refine g_v3V hX lk_X6_77 dX6_casts_92 (c0 := 6) ok63 ⟨_, rfl, rfl⟩ (c_give hI hRν hM hNν hmN hN40 (by omega) (by omega) (by omega) h12) (by first | decide | omega) (by decide) rfl (Nat.le_of_ble_eq_true rfl) (fun μ' hp => ?_)
      obtain ⟨hP, hk2⟩ := hp
      have hk3 := hk.tr hk2
      obtain ⟨H, hH, hH12, hLH, hperm, hsz, hsrt, hsm⟩ := hP
      have hsm2 : μ' 69 3 = lsum (sfx (μ' 70) 0 H) := by rw [hsm, lsum_perm hperm]
      have hnsum : ∀ x : Nat, nsum (nup n p x) (p + 1) = nsum n p + x := fun x => by
        have hcg : ∀ k, k ≤ p → nsum (nup n p x) k = nsum n k := by
          intro k
          induction k with
          | zero => intro _; rfl
          | succ k ihk => intro hk4; show nsum _ k + _ = nsum n k + n k; rw [ihk (by omega), nup_ne (by omega)]
        show nsum _ p + _ = _
        rw [hcg p (Nat.le_refl p), nup_eq]
      have next : ∀ (x : Nat) (ξ : Mem), KPk μ ξ → x ≤ 12 → (w = 0 → Lst (Lp m p g (s + 1 - g)) x) → (w = 1 → ∃ S : List Int, S.Perm (Lp m p g (s + 1 - g)) ∧ Srt S ∧ x = FFn S (fun _ => 0) 0) →
          G V E ξ 118 [some (vr V 63), some (vi (g : Int)), some (vi (s : Int)), some (vi w), some (vi (cntD m g (s + 1 - g) : Int)), some (vi (nsum n p : Int)), some (vi (p : Int))] [vi (x : Int), vi (nsum n p : Int)] := fun x ξ hkx hx12 hx0 hx1 => by
        refine g_iadd hX dX6_casts_118 ?_
        refine st_istore_7_5 hX dX6_casts_119 (by first | exact ck_i _ | exact ck_r _ _ | exact ck_n | exact ck_0) ?_
        refine st_iinc_7_6 hX dX6_casts_121 (by first | exact ck_i _ | exact ck_r _ _ | exact ck_n | exact ck_0) ?_
        refine g_goto (tgt := 80) hX dX6_casts_124 (by decide) ?_
        have := ih (p + 1) ξ (nup n p x) (by omega) hkx (fun hw q hq => ?_) (fun hw q hq => ?_) (fun q hq => ?_) (by rw [hnsum]; omega)
        · rw [hnsum] at this
          exact this
        · by_cases eq : q = p
          · rw [eq, nup_eq]; exact hx0 hw
          · rw [nup_ne eq]; exact hw0 hw q (by omega)
        · by_cases eq : q = p
          · rw [eq, nup_eq]; exact hx1 hw
          · rw [nup_ne eq]; exact hw1 hw q (by omega)
        · by_cases eq : q = p
          · rw [eq, nup_eq]; exact hx12
          · rw [nup_ne eq]; exact hn12 q (by omega)
      have hFle := FFn_le (l := sfx (μ' 70) 0 H) (r := fun _ => 0) (c := 0)
      rw [sfx_len] at hFle
      refine g_iload hX dX6_casts_95 rfl ?_
      refine g_iload_n hX dX6_casts_97 rfl ?_
      refine g_if_ne (tgt := 111) hX dX6_casts_98 (by decide) ⟨by omega, by omega⟩ (fun h6 => ?_) (fun h6 => ?_)
      · refine g_aload_n hX dX6_casts_111 rfl ?_
        refine gf_X6_37 hX dX6_casts_112 ?_
        refine g_v0I hX lk_X6_85 dX6_casts_115 (c0 := 3) ok69 ⟨_, rfl, rfl⟩ (c_plain hI hH hH12 hsz) (by first | decide | omega) (by decide) rfl (Nat.le_of_ble_eq_true rfl) (fun z ξ hp => ?_)
        obtain ⟨rfl, hp2⟩ := hp
        exact next _ ξ (hk3.tr hp2.k) (by omega) (fun h => absurd h h6) (fun _ => ⟨_, hperm, Srt_sfx H 0 (fun a b _ h1 h2 => hsrt a b h1 (by omega)), rfl⟩)
      · refine g_aload_n hX dX6_casts_101 rfl ?_
        refine gf_X6_37 hX dX6_casts_102 ?_
        refine g_v0I hX lk_X6_81 dX6_casts_105 (c0 := 3) ok69 ⟨_, rfl, rfl⟩ (c_fewest hI hH hH12 hsz hsrt hsm2) (by first | decide | omega) (by decide) rfl (Nat.le_of_ble_eq_true rfl) (fun z ξ hp => ?_)
        obtain ⟨⟨y, rfl, hy⟩, hp2⟩ := hp
        have hmem : ∀ x ∈ sfx (μ' 70) 0 H, 0 ≤ x ∧ x ≤ 304 := fun x hx => by
          obtain ⟨j, _, h2, rfl⟩ := sfx_mem H 0 hx
          have := hsz j (by omega); omega
        have hD := FFn_DD (l := sfx (μ' 70) 0 H) (r := fun _ => 0) (c := 0) (fun x hx => (hmem x hx).2)
        have hy12 : y ≤ 12 := by
          apply Classical.byContradiction
          intro hc
          exact hy.2 _ (by omega) (DD_cg (fun b hb => by rw [cutR_ge (Nat.zero_le b)]) hD)
        refine g_goto (tgt := 118) hX dX6_casts_108 (by decide) ?_
        exact next y ξ (hk3.tr hp2.k) hy12 (fun _ => Lst_perm hperm (fun x hx => (hmem x hx).1) hy) (fun h => by omega)
  have count : ∀ (e d : Nat), d + e = s + 1 - g → G V E μ 38 [some (vr V 63), some (vi (g : Int)), some (vi (s : Int)), some (vi w), some (vi (cntD m g d : Int)), some (vi ((g + d : Nat) : Int)), none] [] := by
    intro e
    induction e with
    | zero =>
      intro d hd
      obtain rfl : d = s + 1 - g := by omega
      refine g_iload hX dX6_casts_38 rfl ?_
      refine g_iload_n hX dX6_casts_40 rfl ?_
      refine g_icmp_gt (tgt := 65) hX dX6_casts_41 (by decide) ⟨by omega, by omega⟩ ⟨by omega, by omega⟩ (fun _ => ?_) (fun hc => absurd hc (by omega))
      refine g_iload hX dX6_casts_65 rfl ?_
      refine g_bipush hX dX6_casts_67 rfl ?_
      refine g_icmp_le (tgt := 74) hX dX6_casts_69 (by decide) ⟨by omega, by omega⟩ ⟨by omega, by omega⟩ (fun h6 => ?_) (fun h6 => ?_)
      · refine g_iconst hX dX6_casts_74 ?_
        refine st_istore_7_5 hX dX6_casts_75 (by first | exact ck_i _ | exact ck_r _ _ | exact ck_n | exact ck_0) ?_
        refine g_iconst hX dX6_casts_77 ?_
        refine st_istore_7_6 hX dX6_casts_78 (by first | exact ck_i _ | exact ck_r _ _ | exact ck_n | exact ck_0) ?_
        exact plans (by omega) 8 0 μ (fun _ => 0) (by omega) (fun _ _ _ _ => rfl) (fun _ q hq => absurd hq (by omega)) (fun _ q hq => absurd hq (by omega)) (fun q hq => absurd hq (by omega)) (by decide)
      · refine g_iconst hX dX6_casts_72 ?_
        refine g_iret hX hR dX6_casts_73 ⟨_, rfl, Or.inr ⟨fun h => ?_, rfl⟩, hR0, rfl⟩
        have h7 : cntD m g (s + 1 - g) ≤ 12 := h.2.2.2.2.2.2.2
        omega
    | succ e ih =>
      intro d hd
      have hmp := IM_p hM (i := g + d) (by omega)
      have e4 := xf4 hR0 (i := g + d) (by omega) (by omega)
      have hcl := cntD_le m g d
      have := ih (d + 1) (by omega)
      rw [show ((g + (d + 1) : Nat) : Int) = ((g + d : Nat) : Int) + 1 by omega] at this
      refine g_iload hX dX6_casts_38 rfl ?_
      refine g_iload_n hX dX6_casts_40 rfl ?_
      refine g_icmp_gt (tgt := 65) hX dX6_casts_41 (by decide) ⟨by omega, by omega⟩ ⟨by omega, by omega⟩ (fun hc => absurd hc (by omega)) (fun _ => ?_)
      refine g_aload_n hX dX6_casts_44 rfl ?_
      refine g_iload hX dX6_casts_45 rfl ?_
      refine g_v1R hX lk_X6_66 dX6_casts_47 (c0 := 6) ok63 ⟨_, rfl, rfl⟩ (c_partOf hI hN hN40 ⟨by omega, by omega⟩) (by first | decide | omega) (by decide) rfl (Nat.le_of_ble_eq_true rfl) (fun r μ' hp => ?_)
      obtain ⟨rfl, hm⟩ := hp
      rw [hm]
      clear hm μ'
      rw [if_pos (by omega), show ((g + d : Nat) : Int).toNat = g + d from rfl]
      show G V E μ 50 _ (vr V (g + d) :: [])
      refine g_s1I hX lk_X6_73 dX6_casts_50 (c_isDrawn hI (okd_part (by omega)) (by rw [e4]; exact ⟨by omega, by omega⟩)) (by decide) (by decide) rfl (Nat.le_of_ble_eq_true rfl) (fun z μ' hp => ?_)
      obtain ⟨rfl, hm⟩ := hp
      rw [hm]
      clear hm μ'
      rw [e4]
      by_cases h0 : m 5 (g + d) = 0
      · rw [if_pos h0]
        refine g_if_eq (tgt := 59) hX dX6_casts_53 (by decide) ⟨by omega, by omega⟩ (fun hc => absurd hc (by omega)) (fun _ => ?_)
        refine st_iinc_7_4 hX dX6_casts_56 (by first | exact ck_i _ | exact ck_r _ _ | exact ck_n | exact ck_0) ?_
        refine st_iinc_7_5 hX dX6_casts_59 (by first | exact ck_i _ | exact ck_r _ _ | exact ck_n | exact ck_0) ?_
        refine g_goto (tgt := 38) hX dX6_casts_62 (by decide) ?_
        rw [show cntD m g (d + 1) = cntD m g d + 1 by
          show cntD m g d + (if m 5 (g + d) = 0 then 1 else 0) = _
          rw [if_pos h0]] at this
        exact this
      · rw [if_neg h0]
        refine g_if_eq (tgt := 59) hX dX6_casts_53 (by decide) ⟨by omega, by omega⟩ (fun _ => ?_) (fun hc => absurd hc (by omega))
        refine st_iinc_7_5 hX dX6_casts_59 (by first | exact ck_i _ | exact ck_r _ _ | exact ck_n | exact ck_0) ?_
        refine g_goto (tgt := 38) hX dX6_casts_62 (by decide) ?_
        rw [show cntD m g (d + 1) = cntD m g d by
          show cntD m g d + (if m 5 (g + d) = 0 then 1 else 0) = _
          rw [if_neg h0]; rfl] at this
        exact this
  refine g_iconst hX dX6_casts_32 ?_
  refine st_istore_7_4 hX dX6_casts_33 (by first | exact ck_i _ | exact ck_r _ _ | exact ck_n | exact ck_0) ?_
  refine g_iload_n hX dX6_casts_35 rfl ?_
  refine st_istore_7_5 hX dX6_casts_36 (by first | exact ck_i _ | exact ck_r _ _ | exact ck_n | exact ck_0) ?_
  exact count (s + 1 - g) 0 (by omega)
