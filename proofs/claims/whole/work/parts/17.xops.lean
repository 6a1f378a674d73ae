/-! the class's calls: move, load, change -/
def spMove (m : Mem) (f t : Int) : Int × Mem :=
  if (0 ≤ f ∧ f < 5) ∧ (0 ≤ t ∧ t < 5) ∧ f ≠ t then (if m 13 f.toNat = 0 then (-2, m) else if m 13 t.toNat = 4 then (-3, m) else
    ((topM m f.toNat : Int), clrM f.toNat 4 (layM (mset m 13 f.toNat (m 13 f.toNat - 1)) (topM m f.toNat) t.toNat (m 13 t.toNat).toNat))) else (-1, m)
def fitsL (m : Mem) (p : Nat) : Prop := heavyK m (m 0 17).toNat + m 3 p ≤ 120 ∧ frontK m (m 0 17).toNat + m 3 p * (8 - 2 * m 0 17) ≤ 720 ∧ rearK m (m 0 17).toNat + m 3 p * (2 * m 0 17 + 1) ≤ 720
def ldM (m : Mem) (s : Nat) : Mem := mset (mset (mset (ltkM m (m 0 17).toNat (topM m s)) 13 s (m 13 s - 1)) 5 (topM m s) 6) 6 (topM m s) (-4)
theorem fitsL_dec (m : Mem) (p : Nat) : fitsL m p ↔ (heavyK m (m 0 17).toNat + m 3 p ≤ 120 ∧ frontK m (m 0 17).toNat + m 3 p * (8 - 2 * m 0 17) ≤ 720 ∧ rearK m (m 0 17).toNat + m 3 p * (2 * m 0 17 + 1) ≤ 720) := Iff.rfl
def spLoad (m : Mem) (s : Int) : Int × Mem :=
  if 0 ≤ s ∧ s < 5 then (if m 13 s.toNat = 0 then (-2, m) else if m 0 17 = 4 then (-3, m) else
    if heavyK m (m 0 17).toNat + m 3 (topM m s.toNat) ≤ 120 ∧ frontK m (m 0 17).toNat + m 3 (topM m s.toNat) * (8 - 2 * m 0 17) ≤ 720 ∧ rearK m (m 0 17).toNat + m 3 (topM m s.toNat) * (2 * m 0 17 + 1) ≤ 720 then
      (m 0 17, clrM s.toNat 4 (ldM m s.toNat)) else (-2, mset m 15 (m 0 17).toNat (topM m s.toNat))) else (-1, m)
def getsM (m : Mem) (p : Nat) (l pl w : Int) : Mem := mset (mset (mset m 1 p l) 2 p pl) 3 p w
def strkM (m : Mem) (p : Nat) : Mem := if m 5 p = 2 then mset (mset m 5 p 5) 6 p (-4) else if m 5 p = 3 then clrM (m 6 p).toNat 4 (mset m 8 p 1) else mset m 8 p 1
def spChange (m : Mem) (p l pl w : Int) : Int × Mem :=
  if (0 ≤ p ∧ p < m 0 0) ∧ areM l pl w then
    (if m 5 p.toNat = 4 ∨ m 5 p.toNat = 6 ∨ m 5 p.toNat = 5 ∨ m 8 p.toNat = 1 then (-2, m)
     else if m 1 p.toNat = l ∧ m 2 p.toNat = pl ∧ m 3 p.toNat = w then (2, m)
     else if m 5 p.toNat = 0 then (0, getsM m p.toNat l pl w)
     else if m 2 p.toNat = pl ∧ l < m 1 p.toNat ∧ w ≤ m 3 p.toNat then (if m 5 p.toNat = 2 then (1, getsM m p.toNat l pl w) else (-2, m))
     else if m 0 0 = 40 then (-3, m)
     else (100 + m 0 0, strkM (newM m (m 0 0).toNat l pl w (m 4 p.toNat)) p.toNat)) else (-1, m)
theorem R_garb {ν m : Mem} {h : Nat} {v : Int} (hR : RelXM ν m) (hh : m 0 17 = (h : Int)) : RelXM ν (mset m 15 h v) := by
  obtain ⟨hA, hB, hC, hD, hE⟩ := hR
  have e3 : ∀ k : Nat, k < (m 0 17).toNat → mset m 15 h v 15 k = m 15 k ∧ mset m 15 h v 3 (m 15 k).toNat = m 3 (m 15 k).toNat := fun k hk => ⟨mset_ne (Or.inr (by omega)), mset_ne (Or.inl (by decide))⟩
  refine ⟨?_, fun i j' hi hj' => ?_, fun b hb3 => ?_, fun t ht => ?_, ?_⟩
  · simp (disch := omega) only [mset_ne]; exact hA
  · have hBi := hB i j' hi hj'
    unfold pvF at hBi ⊢
    simp (disch := omega) only [mset_ne]
    exact hBi
  · rw [bedlen_cg (m := m) (by simp (disch := omega) only [mset_ne]) (fun k hk => ⟨by simp (disch := omega) only [mset_ne], by simp (disch := omega) only [mset_ne]⟩)]
    simp (disch := omega) only [mset_ne]
    exact hC b hb3
  · simp (disch := omega) only [mset_ne]; exact hD t ht
  · rw [mset_ne (k' := 0) (Or.inl (by decide)), heavyK_cg e3, frontK_cg e3, rearK_cg e3]
    obtain ⟨h1, h2, h3, h4, h5⟩ := hE
    exact ⟨h1, h2, h3, h4, fun k hk => by rw [mset_ne (Or.inr (by omega))]; exact h5 k hk⟩
set_option maxHeartbeats 4000000 in
theorem x_move {lnch : Launch} {V : VX} (hI : InjV V) {μ : Mem} {m : Mem} {c : Nat} {f t : Int} (hR0 : RelXM μ m) (hM : IM c m) (hf : in32 f) (ht : in32 t) : Ct lnch yX6_move cX6_move 7 (some .int) 5 V [vr V 63, vi f, vi t] μ (pI (XP μ (spMove m f t))) := by
  refine Ct_of (by decide) hI (Nat.le_of_ble_eq_true rfl) (fun E hE hX hR => ?_)
  have hX : OkX V E RX6 cX6_move 7 5 := hX
  show G V E μ 0 [some (vr V 63), some (vi f), some (vi t), none, none, none, none] []
  obtain ⟨N, hN40, hmN, hN⟩ := rel_n hR0 hM
  unfold spMove at hR
  refine g_aload_n hX dX6_move_0 rfl ?_
  refine g_iload_n hX dX6_move_1 rfl ?_
  refine g_v1R hX lk_X6_156 dX6_move_2 (c0 := 6) ok63 ⟨_, rfl, rfl⟩ (c_stackOf hI hf) (by first | decide | omega) (by decide) rfl (Nat.le_of_ble_eq_true rfl) (fun r μ' hp => ?_)
  obtain ⟨rfl, hm⟩ := hp
  rw [hm]
  clear hm μ'
  by_cases h1 : 0 ≤ f ∧ f < 5
  rotate_left
  · rw [if_neg h1]
    rw [if_neg (by omega)] at hR
    show G V E μ 5 _ (Value.null :: [])
    refine st_astore_nN_7_3 hX dX6_move_5 (by first | exact ck_i _ | exact ck_r _ _ | exact ck_n | exact ck_0) ?_
    refine g_aload_n hX dX6_move_6 rfl ?_
    refine g_iload_n hX dX6_move_7 rfl ?_
    refine g_v1R hX lk_X6_156 dX6_move_8 (c0 := 6) ok63 ⟨_, rfl, rfl⟩ (c_stackOf hI ht) (by first | decide | omega) (by decide) rfl (Nat.le_of_ble_eq_true rfl) (fun r μ' hp => ?_)
    obtain ⟨rfl, hm⟩ := hp
    rw [hm]
    clear hm μ'
    by_cases h2 : 0 ≤ t ∧ t < 5
    · rw [if_pos h2]
      show G V E μ 11 _ (vr V (43 + t.toNat) :: [])
      refine st_astore_7_4 hX dX6_move_11 (by first | exact ck_i _ | exact ck_r _ _ | exact ck_n | exact ck_0) ?_
      refine g_aload_nN hX dX6_move_13 rfl ?_
      refine g_ifnullN (tgt := 27) hX dX6_move_14 (by decide) ?_
      refine g_iconst hX dX6_move_27 ?_
      refine g_iret hX hR dX6_move_28 ⟨_, rfl, rfl, hR0, rfl⟩
    · rw [if_neg h2]
      show G V E μ 11 _ (Value.null :: [])
      refine st_astoreN_7_4 hX dX6_move_11 (by first | exact ck_i _ | exact ck_r _ _ | exact ck_n | exact ck_0) ?_
      refine g_aload_nN hX dX6_move_13 rfl ?_
      refine g_ifnullN (tgt := 27) hX dX6_move_14 (by decide) ?_
      refine g_iconst hX dX6_move_27 ?_
      refine g_iret hX hR dX6_move_28 ⟨_, rfl, rfl, hR0, rfl⟩
  rw [if_pos h1]
  show G V E μ 5 _ (vr V (43 + f.toNat) :: [])
  refine st_astore_n_7_3 hX dX6_move_5 (by first | exact ck_i _ | exact ck_r _ _ | exact ck_n | exact ck_0) ?_
  refine g_aload_n hX dX6_move_6 rfl ?_
  refine g_iload_n hX dX6_move_7 rfl ?_
  refine g_v1R hX lk_X6_156 dX6_move_8 (c0 := 6) ok63 ⟨_, rfl, rfl⟩ (c_stackOf hI ht) (by first | decide | omega) (by decide) rfl (Nat.le_of_ble_eq_true rfl) (fun r μ' hp => ?_)
  obtain ⟨rfl, hm⟩ := hp
  rw [hm]
  clear hm μ'
  by_cases h2 : 0 ≤ t ∧ t < 5
  rotate_left
  · rw [if_neg h2]
    rw [if_neg (by omega)] at hR
    show G V E μ 11 _ (Value.null :: [])
    refine st_astoreN_7_4 hX dX6_move_11 (by first | exact ck_i _ | exact ck_r _ _ | exact ck_n | exact ck_0) ?_
    refine g_aload_n hX dX6_move_13 rfl ?_
    refine g_ifnull hX dX6_move_14 ?_
    refine g_aloadN hX dX6_move_17 rfl ?_
    refine g_ifnullN (tgt := 27) hX dX6_move_19 (by decide) ?_
    refine g_iconst hX dX6_move_27 ?_
    refine g_iret hX hR dX6_move_28 ⟨_, rfl, rfl, hR0, rfl⟩
  rw [if_pos h2]
  obtain ⟨u, rfl⟩ : ∃ u : Nat, f = (u : Int) := ⟨f.toNat, by omega⟩
  obtain ⟨s, rfl⟩ : ∃ s : Nat, t = (s : Int) := ⟨t.toNat, by omega⟩
  rw [show ((u : Int)).toNat = u from rfl, show ((s : Int)).toNat = s from rfl] at *
  show G V E μ 11 _ (vr V (43 + s) :: [])
  refine st_astore_7_4 hX dX6_move_11 (by first | exact ck_i _ | exact ck_r _ _ | exact ck_n | exact ck_0) ?_
  refine g_aload_n hX dX6_move_13 rfl ?_
  refine g_ifnull hX dX6_move_14 ?_
  refine g_aload hX dX6_move_17 rfl ?_
  refine g_ifnull hX dX6_move_19 ?_
  refine g_iload_n hX dX6_move_22 rfl ?_
  refine g_iload_n hX dX6_move_23 rfl ?_
  refine g_icmp_ne (tgt := 29) hX dX6_move_24 (by decide) ⟨by omega, by omega⟩ ⟨by omega, by omega⟩ (fun h3 => ?_) (fun h3 => ?_)
  rotate_left
  · rw [if_neg (by omega)] at hR
    refine g_iconst hX dX6_move_27 ?_
    refine g_iret hX hR dX6_move_28 ⟨_, rfl, rfl, hR0, rfl⟩
  rw [if_pos ⟨h1, h2, h3⟩] at hR
  have hus : u ≠ s := fun h => h3 (by rw [h])
  have hdu := hR0.2.2.2.1 u (by omega)
  have hds := hR0.2.2.2.1 s (by omega)
  have hyu := hM.2.2.2.1.1 u (by omega)
  have hys := (hM.2.2.2.1.1 s (by omega)).1
  have hsi := SI_of hM (s := u) (by omega) hmN
  obtain ⟨h, hh⟩ : ∃ h : Nat, m 13 u = (h : Int) := ⟨(m 13 u).toNat, by omega⟩
  obtain ⟨g, hg⟩ : ∃ g : Nat, m 13 s = (g : Int) := ⟨(m 13 s).toNat, by omega⟩
  refine g_aload_n hX dX6_move_29 rfl ?_
  refine g_aload_n hX dX6_move_30 rfl ?_
  refine g_v0I hX lk_X6_171 dX6_move_31 (c0 := 5) (by first | assumption | exact okd_part (by omega) | exact okd_bed (by omega) | exact okd_pile (by omega) | exact okd_dpile (by omega)) ⟨_, rfl, rfl⟩ (c_top (h := h) hI (okd_pile (by omega)) (by rw [hdu.1, hh]) (by omega)) (by first | decide | omega) (by decide) rfl (Nat.le_of_ble_eq_true rfl) (fun z μ' hp => ?_)
  obtain ⟨rfl, hm⟩ := hp
  rw [hm]
  clear hm μ'
  by_cases h0 : 0 < h
  rotate_left
  · rw [if_neg h0]
    rw [if_pos (by omega)] at hR
    refine g_v1R hX lk_X6_66 dX6_move_34 (c0 := 6) ok63 ⟨_, rfl, rfl⟩ (c_partOf hI hN hN40 ⟨by omega, by omega⟩) (by first | decide | omega) (by decide) rfl (Nat.le_of_ble_eq_true rfl) (fun r μ' hp => ?_)
    obtain ⟨rfl, hm⟩ := hp
    rw [hm]
    clear hm μ'
    rw [if_neg (by omega)]
    show G V E μ 37 _ (Value.null :: [])
    refine st_astoreN_7_5 hX dX6_move_37 (by first | exact ck_i _ | exact ck_r _ _ | exact ck_n | exact ck_0) ?_
    refine g_aloadN hX dX6_move_39 rfl ?_
    refine g_ifnonnullN hX dX6_move_41 ?_
    refine g_bipush hX dX6_move_44 rfl ?_
    refine g_iret hX hR dX6_move_46 ⟨_, rfl, rfl, hR0, rfl⟩
  rw [if_neg (by omega)] at hR
  have htp := top_in hsi (by omega)
  have htp2 := htp.2
  have etop : μ (43 + u + 5) (h - 1) = (topM m u : Int) := by
    rw [show 43 + u + 5 = 48 + u by omega, hdu.2 (h - 1) (by omega), htp.1, show (m 13 u).toNat = h by omega]
  rw [if_pos h0, etop]
  refine g_v1R hX lk_X6_66 dX6_move_34 (c0 := 6) ok63 ⟨_, rfl, rfl⟩ (c_partOf hI hN hN40 ⟨by omega, by omega⟩) (by first | decide | omega) (by decide) rfl (Nat.le_of_ble_eq_true rfl) (fun r μ' hp => ?_)
  obtain ⟨rfl, hm⟩ := hp
  rw [hm]
  clear hm μ'
  rw [if_pos (by omega), show ((topM m u : Nat) : Int).toNat = topM m u from rfl]
  show G V E μ 37 _ (vr V (topM m u) :: [])
  refine st_astore_7_5 hX dX6_move_37 (by first | exact ck_i _ | exact ck_r _ _ | exact ck_n | exact ck_0) ?_
  refine g_aload hX dX6_move_39 rfl ?_
  refine g_ifnonnull (tgt := 47) hX dX6_move_41 (by decide) ?_
  refine g_aload hX dX6_move_47 rfl ?_
  refine g_v0I hX lk_X6_160 dX6_move_49 (c0 := 5) (by first | assumption | exact okd_part (by omega) | exact okd_bed (by omega) | exact okd_pile (by omega) | exact okd_dpile (by omega)) ⟨_, rfl, rfl⟩ (c_hasRoom (h := g) hI (okd_pile (by omega)) (by rw [hds.1, hg]) (by omega)) (by first | decide | omega) (by decide) rfl (Nat.le_of_ble_eq_true rfl) (fun z μ' hp => ?_)
  obtain ⟨rfl, hm⟩ := hp
  rw [hm]
  clear hm μ'
  by_cases h4 : g < 4
  rotate_left
  · rw [if_neg h4]
    rw [if_pos (by omega)] at hR
    refine g_if_ne (tgt := 58) hX dX6_move_52 (by decide) ⟨by omega, by omega⟩ (fun hc => absurd hc (by omega)) (fun _ => ?_)
    refine g_bipush hX dX6_move_55 rfl ?_
    refine g_iret hX hR dX6_move_57 ⟨_, rfl, rfl, hR0, rfl⟩
  rw [if_pos h4]
  rw [if_neg (by omega)] at hR
  refine g_if_ne (tgt := 58) hX dX6_move_52 (by decide) ⟨by omega, by omega⟩ (fun _ => ?_) (fun hc => absurd hc (by omega))
  refine g_aload_n hX dX6_move_58 rfl ?_
  refine g_v0I hX lk_X6_174 dX6_move_59 (c0 := 5) (by first | assumption | exact okd_part (by omega) | exact okd_bed (by omega) | exact okd_pile (by omega) | exact okd_dpile (by omega)) ⟨_, rfl, rfl⟩ (c_takeOff (h := h) hI (okd_pile (by omega)) (by rw [hdu.1, hh]) (by omega) h0) (by first | decide | omega) (by decide) rfl (Nat.le_of_ble_eq_true rfl) (fun z μ' hp => ?_)
  obtain ⟨rfl, hm⟩ := hp
  rw [hm]
  clear hm μ'
  rw [etop]
  refine st_istore_7_6 hX dX6_move_62 (by first | exact ck_i _ | exact ck_r _ _ | exact ck_n | exact ck_0) ?_
  refine g_aload hX dX6_move_64 rfl ?_
  refine g_iload hX dX6_move_66 rfl ?_
  refine g_v1V hX lk_X6_164 dX6_move_68 (c0 := 5) (by first | assumption | exact okd_part (by omega) | exact okd_bed (by omega) | exact okd_pile (by omega) | exact okd_dpile (by omega)) ⟨_, rfl, rfl⟩ (c_put (h := g) hI (okd_pile (by omega)) (by rw [mset_ne (Or.inl (by omega)), hds.1, hg]) h4) (by first | decide | omega) (by decide) rfl (Nat.le_of_ble_eq_true rfl) (fun μ' hp => ?_)
  rw [hp]
  clear hp μ'
  refine g_aload hX dX6_move_71 rfl ?_
  refine g_iconst hX dX6_move_73 ?_
  refine g_iload_n hX dX6_move_74 rfl ?_
  refine g_v2V hX lk_X6_104 dX6_move_75 (c0 := 4) (by first | assumption | exact okd_part (by omega) | exact okd_bed (by omega) | exact okd_pile (by omega) | exact okd_dpile (by omega)) ⟨_, rfl, rfl⟩ (c_isNow hI (okd_part (by omega))) (by first | decide | omega) (by decide) rfl (Nat.le_of_ble_eq_true rfl) (fun μ' hp => ?_)
  rw [hp]
  clear hp μ'
  have r1 := R_hgt (s := u) (v := m 13 u - 1) hR0 (by omega) (by omega)
  have r2 := R_lay (p := topM m u) (h := g) r1 (by omega : s < 5) (by rw [mset_ne (Or.inr (by omega))]; exact hg) h4 (fun t ht => by
    have := IMy_4 hM t ht
    by_cases htu : t = u
    · subst htu; rw [mset_same]; omega
    · rw [mset_ne (Or.inr htu)]; exact this) (by rw [mset_ne (Or.inl (by decide))]; omega) (by omega)
  rw [hh] at r2
  have s2 : SI (layM (mset m 13 u ((h : Int) - 1)) (topM m u) s g) u N := by
    obtain ⟨a1, a2, a3, a4, a5⟩ := hsi
    unfold layM
    refine ⟨by simp (disch := omega) only [mset_ne]; exact a1, a2, by simp (disch := omega) only [mset_ne, mset_same]; omega, fun k hk => ?_, fun i hi => by simp (disch := omega) only [mset_ne]; exact a5 i hi⟩
    simp (disch := omega) only [mset_ne, mset_same] at hk ⊢
    rw [mset_ne (Or.inr (by omega)), mset_ne (Or.inl (by decide))]
    exact a4 k (by omega)
  rw [show 43 + s + 5 = 48 + s by omega]
  refine g_aload_n hX dX6_move_78 rfl ?_
  refine g_aload_n hX dX6_move_79 rfl ?_
  refine g_v1V hX lk_X6_177 dX6_move_80 (c0 := 6) ok63 ⟨_, rfl, rfl⟩ (c_strikeTops hI r2 (by omega) s2) (by first | decide | omega) (by decide) rfl (Nat.le_of_ble_eq_true rfl) (fun μ' hp => ?_)
  obtain ⟨hp1, hp2⟩ := hp
  refine g_iload hX dX6_move_83 rfl ?_
  refine g_iret hX hR dX6_move_85 ⟨_, rfl, rfl, ?_, ?_⟩
  · show RelXM μ' (clrM u 4 (layM (mset m 13 u (m 13 u - 1)) (topM m u) s (m 13 s).toNat))
    rw [hh, hg]
    exact hp1
  · rw [hp2, vw_out (by omega), vw_out (by omega), vw_out (by omega), vw_out (by omega), vw_out (by omega)]
theorem lsum_rng {c : Nat} {m : Mem} (hM : IM c m) : ∀ k : Nat, (k : Int) ≤ m 0 17 → 0 ≤ heavyK m k ∧ 0 ≤ frontK m k ∧ 0 ≤ rearK m k := by
  intro k
  induction k with
  | zero => intro _; exact ⟨Int.le_refl 0, Int.le_refl 0, Int.le_refl 0⟩
  | succ k ih =>
    intro hk
    have hi := ih (by omega)
    have hl := hM.2.2.2.2.2.1 k (by omega)
    have h4 := hM.2.2.2.2.1.2
    have hp := (IM_p hM (i := (m 15 k).toNat) (by omega)).2.2.1
    unfold heavyK frontK rearK
    have e1 : 0 ≤ m 3 (m 15 k).toNat * (8 - 2 * (k : Int)) := Int.mul_nonneg (by omega) (by omega)
    have e2 : 0 ≤ m 3 (m 15 k).toNat * (2 * (k : Int) + 1) := Int.mul_nonneg (by omega) (by omega)
    omega
set_option maxHeartbeats 4000000 in
theorem x_load {lnch : Launch} {V : VX} (hI : InjV V) {μ : Mem} {m : Mem} {c : Nat} {t : Int} (hR0 : RelXM μ m) (hM : IM c m) (ht : in32 t) : Ct lnch yX6_load cX6_load 5 (some .int) 5 V [vr V 63, vi t] μ (pI (XP μ (spLoad m t))) := by
  refine Ct_of (by decide) hI (Nat.le_of_ble_eq_true rfl) (fun E hE hX hR => ?_)
  have hX : OkX V E RX6 cX6_load 5 5 := hX
  show G V E μ 0 [some (vr V 63), some (vi t), none, none, none] []
  obtain ⟨N, hN40, hmN, hN⟩ := rel_n hR0 hM
  unfold spLoad at hR
  refine g_aload_n hX dX6_load_0 rfl ?_
  refine g_iload_n hX dX6_load_1 rfl ?_
  refine g_v1R hX lk_X6_156 dX6_load_2 (c0 := 6) ok63 ⟨_, rfl, rfl⟩ (c_stackOf hI ht) (by first | decide | omega) (by decide) rfl (Nat.le_of_ble_eq_true rfl) (fun r μ' hp => ?_)
  obtain ⟨rfl, hm⟩ := hp
  rw [hm]
  clear hm μ'
  by_cases h2 : 0 ≤ t ∧ t < 5
  rotate_left
  · rw [if_neg h2]
    rw [if_neg h2] at hR
    show G V E μ 5 _ (Value.null :: [])
    refine st_astore_nN_5_2 hX dX6_load_5 (by first | exact ck_i _ | exact ck_r _ _ | exact ck_n | exact ck_0) ?_
    refine g_aload_nN hX dX6_load_6 rfl ?_
    refine g_ifnonnullN hX dX6_load_7 ?_
    refine g_iconst hX dX6_load_10 ?_
    refine g_iret hX hR dX6_load_11 ⟨_, rfl, rfl, hR0, rfl⟩
  rw [if_pos h2]
  rw [if_pos h2] at hR
  obtain ⟨s, rfl⟩ : ∃ s : Nat, t = (s : Int) := ⟨t.toNat, by omega⟩
  rw [show ((s : Int)).toNat = s from rfl] at *
  have hds := hR0.2.2.2.1 s (by omega)
  have hys := (hM.2.2.2.1.1 s (by omega)).1
  have hsi := SI_of hM (s := s) (by omega) hmN
  obtain ⟨h, hh⟩ : ∃ h : Nat, m 13 s = (h : Int) := ⟨(m 13 s).toNat, by omega⟩
  obtain ⟨e1, e2, e3, e4, -⟩ := hR0.2.2.2.2
  obtain ⟨hl1, hl2, hl3, hl4, hl5⟩ := hM.2.2.2.2
  have hlr := lsum_rng hM (m 0 17).toNat (by omega)
  obtain ⟨g, hg⟩ : ∃ g : Nat, m 0 17 = (g : Int) := ⟨(m 0 17).toNat, by omega⟩
  show G V E μ 5 _ (vr V (43 + s) :: [])
  refine st_astore_n_5_2 hX dX6_load_5 (by first | exact ck_i _ | exact ck_r _ _ | exact ck_n | exact ck_0) ?_
  refine g_aload_n hX dX6_load_6 rfl ?_
  refine g_ifnonnull (tgt := 12) hX dX6_load_7 (by decide) ?_
  refine g_aload_n hX dX6_load_12 rfl ?_
  refine g_aload_n hX dX6_load_13 rfl ?_
  refine g_v0I hX lk_X6_171 dX6_load_14 (c0 := 5) (by first | assumption | exact okd_part (by omega) | exact okd_bed (by omega) | exact okd_pile (by omega) | exact okd_dpile (by omega)) ⟨_, rfl, rfl⟩ (c_top (h := h) hI (okd_pile (by omega)) (by rw [hds.1, hh]) (by omega)) (by first | decide | omega) (by decide) rfl (Nat.le_of_ble_eq_true rfl) (fun z μ' hp => ?_)
  obtain ⟨rfl, hm⟩ := hp
  rw [hm]
  clear hm μ'
  by_cases h0 : 0 < h
  rotate_left
  · rw [if_neg h0]
    rw [if_pos (by omega)] at hR
    refine g_v1R hX lk_X6_66 dX6_load_17 (c0 := 6) ok63 ⟨_, rfl, rfl⟩ (c_partOf hI hN hN40 ⟨by omega, by omega⟩) (by first | decide | omega) (by decide) rfl (Nat.le_of_ble_eq_true rfl) (fun r μ' hp => ?_)
    obtain ⟨rfl, hm⟩ := hp
    rw [hm]
    clear hm μ'
    rw [if_neg (by omega)]
    show G V E μ 20 _ (Value.null :: [])
    refine st_astore_nN_5_3 hX dX6_load_20 (by first | exact ck_i _ | exact ck_r _ _ | exact ck_n | exact ck_0) ?_
    refine g_aload_nN hX dX6_load_21 rfl ?_
    refine g_ifnonnullN hX dX6_load_22 ?_
    refine g_bipush hX dX6_load_25 rfl ?_
    refine g_iret hX hR dX6_load_27 ⟨_, rfl, rfl, hR0, rfl⟩
  rw [if_neg (by omega)] at hR
  have htp := top_in hsi (by omega)
  have htp2 := htp.2
  have etop : μ (43 + s + 5) (h - 1) = (topM m s : Int) := by
    rw [show 43 + s + 5 = 48 + s by omega, hds.2 (h - 1) (by omega), htp.1, show (m 13 s).toNat = h by omega]
  rw [if_pos h0, etop]
  refine g_v1R hX lk_X6_66 dX6_load_17 (c0 := 6) ok63 ⟨_, rfl, rfl⟩ (c_partOf hI hN hN40 ⟨by omega, by omega⟩) (by first | decide | omega) (by decide) rfl (Nat.le_of_ble_eq_true rfl) (fun r μ' hp => ?_)
  obtain ⟨rfl, hm⟩ := hp
  rw [hm]
  clear hm μ'
  rw [if_pos (by omega), show ((topM m s : Nat) : Int).toNat = topM m s from rfl]
  show G V E μ 20 _ (vr V (topM m s) :: [])
  have ew := xf2 hR0 (i := topM m s) (by omega) (by omega)
  have hw := (IM_p hM (i := topM m s) (by omega)).2.2.1
  refine st_astore_n_5_3 hX dX6_load_20 (by first | exact ck_i _ | exact ck_r _ _ | exact ck_n | exact ck_0) ?_
  refine g_aload_n hX dX6_load_21 rfl ?_
  refine g_ifnonnull (tgt := 28) hX dX6_load_22 (by decide) ?_
  refine g_aload_n hX dX6_load_28 rfl ?_
  refine gf_X6_30 hX dX6_load_29 ?_
  refine g_v0I hX lk_X6_201 dX6_load_32 (c0 := 2) ok67 ⟨_, rfl, rfl⟩ (c_hasPlace (h := g) hI (by rw [e1, hg]) (by omega)) (by first | decide | omega) (by decide) rfl (Nat.le_of_ble_eq_true rfl) (fun z μ' hp => ?_)
  obtain ⟨rfl, hm⟩ := hp
  rw [hm]
  clear hm μ'
  by_cases h4 : g < 4
  rotate_left
  · rw [if_neg h4]
    rw [if_pos (by omega)] at hR
    refine g_if_ne (tgt := 41) hX dX6_load_35 (by decide) ⟨by omega, by omega⟩ (fun hc => absurd hc (by omega)) (fun _ => ?_)
    refine g_bipush hX dX6_load_38 rfl ?_
    refine g_iret hX hR dX6_load_40 ⟨_, rfl, rfl, hR0, rfl⟩
  rw [if_pos h4]
  rw [if_neg (by omega)] at hR
  refine g_if_ne (tgt := 41) hX dX6_load_35 (by decide) ⟨by omega, by omega⟩ (fun _ => ?_) (fun hc => absurd hc (by omega))
  refine g_aload_n hX dX6_load_41 rfl ?_
  refine gf_X6_30 hX dX6_load_42 ?_
  refine g_aload_n hX dX6_load_45 rfl ?_
  refine gf_X6_204 hX dX6_load_46 (by first | assumption | exact okd_part (by omega) | exact okd_bed (by omega) | exact okd_pile (by omega) | exact okd_dpile (by omega)) ?_
  rw [ew]
  refine g_v1I hX lk_X6_207 dX6_load_49 (c0 := 2) ok67 ⟨_, rfl, rfl⟩ (c_bears hI (by omega) (by omega) (by omega) (by omega) (by omega)) (by first | decide | omega) (by decide) rfl (Nat.le_of_ble_eq_true rfl) (fun z μ' hp => ?_)
  obtain ⟨rfl, hm⟩ := hp
  rw [hm]
  clear hm μ'
  rw [e1, e2, e3, e4]
  by_cases h5 : heavyK m (m 0 17).toNat + m 3 (topM m s) ≤ 120 ∧ frontK m (m 0 17).toNat + m 3 (topM m s) * (8 - 2 * m 0 17) ≤ 720 ∧ rearK m (m 0 17).toNat + m 3 (topM m s) * (2 * m 0 17 + 1) ≤ 720
  rotate_left
  · rw [if_neg h5]
    rw [if_neg h5] at hR
    refine g_if_ne (tgt := 58) hX dX6_load_52 (by decide) ⟨by omega, by omega⟩ (fun hc => absurd hc (by omega)) (fun _ => ?_)
    refine g_bipush hX dX6_load_55 rfl ?_
    refine g_iret hX hR dX6_load_57 ⟨_, rfl, rfl, R_garb hR0 (by omega), rfl⟩
  rw [if_pos h5]
  rw [if_pos h5] at hR
  refine g_if_ne (tgt := 58) hX dX6_load_52 (by decide) ⟨by omega, by omega⟩ (fun _ => ?_) (fun hc => absurd hc (by omega))
  refine g_aload_n hX dX6_load_58 rfl ?_
  refine gf_X6_30 hX dX6_load_59 ?_
  refine g_aload_n hX dX6_load_62 rfl ?_
  refine g_v0I hX lk_X6_174 dX6_load_63 (c0 := 5) (by first | assumption | exact okd_part (by omega) | exact okd_bed (by omega) | exact okd_pile (by omega) | exact okd_dpile (by omega)) ⟨_, rfl, rfl⟩ (c_takeOff (h := h) hI (okd_pile (by omega)) (by rw [hds.1, hh]) (by omega) h0) (by first | decide | omega) (by decide) rfl (Nat.le_of_ble_eq_true rfl) (fun z μ' hp => ?_)
  obtain ⟨rfl, hm⟩ := hp
  rw [hm]
  clear hm μ'
  rw [etop]
  refine g_aload_n hX dX6_load_66 rfl ?_
  refine gf_X6_204 hX dX6_load_67 (by first | assumption | exact okd_part (by omega) | exact okd_bed (by omega) | exact okd_pile (by omega) | exact okd_dpile (by omega)) ?_
  rw [mset_ne (Or.inl (by omega)), ew]
  refine g_v2I hX lk_X6_210 dX6_load_70 (c0 := 2) ok67 ⟨_, rfl, rfl⟩ (c_ltake (h := g) hI (by rw [mset_ne (Or.inl (by omega)), e1, hg]) h4) (by first | decide | omega) (by decide) rfl (Nat.le_of_ble_eq_true rfl) (fun z μ' hp => ?_)
  obtain ⟨rfl, hm⟩ := hp
  rw [hm]
  clear hm μ'
  refine st_istore_5_4 hX dX6_load_73 (by first | exact ck_i _ | exact ck_r _ _ | exact ck_n | exact ck_0) ?_
  refine g_aload_n hX dX6_load_75 rfl ?_
  refine g_bipush hX dX6_load_76 rfl ?_
  refine g_bipush hX dX6_load_78 rfl ?_
  refine g_v2V hX lk_X6_104 dX6_load_80 (c0 := 4) (by first | assumption | exact okd_part (by omega) | exact okd_bed (by omega) | exact okd_pile (by omega) | exact okd_dpile (by omega)) ⟨_, rfl, rfl⟩ (c_isNow hI (okd_part (by omega))) (by first | decide | omega) (by decide) rfl (Nat.le_of_ble_eq_true rfl) (fun μ' hp => ?_)
  rw [hp]
  clear hp μ'
  have r1 := R_hgt (v := (h : Int) - 1) hR0 (by omega : s < 5) (by omega)
  have r2 := R_ltk (h := g) (p := (topM m s : Int)) (w := m 3 (topM m s)) r1 (by rw [mset_ne (Or.inl (by decide)), hg]) (by rw [mset_ne (Or.inl (by decide))]; rfl)
  have r3 := R_pf4 (p := topM m s) (v := 6) r2 (by unfold ltkM; simp (disch := omega) only [mset_ne]; omega) (by omega)
  have r4 := R_pf5 (p := topM m s) (v := -4) r3 (by unfold ltkM; simp (disch := omega) only [mset_ne]; omega) (by omega)
  have em : mset (mset (ltkM (mset m 13 s ((h : Int) - 1)) g (topM m s : Int)) 5 (topM m s) 6) 6 (topM m s) (-4) = ldM m s := by
    unfold ldM ltkM
    rw [show (m 0 17).toNat = g by omega, hh, mset_comm (a := 13) (c := 15) (by omega), mset_comm (a := 13) (c := 0) (by omega)]
  rw [em] at r4
  have s2 : SI (ldM m s) s N := by
    obtain ⟨a1, a2, a3, a4, a5⟩ := hsi
    unfold ldM ltkM
    refine ⟨by simp (disch := omega) only [mset_ne]; exact a1, a2, by simp (disch := omega) only [mset_ne, mset_same]; omega, fun k hk => ?_, fun i hi => by simp (disch := omega) only [mset_ne]; exact a5 i hi⟩
    simp (disch := omega) only [mset_ne, mset_same] at hk ⊢
    exact a4 k (by omega)
  refine g_aload_n hX dX6_load_83 rfl ?_
  refine g_aload_n hX dX6_load_84 rfl ?_
  unfold ltkX at r4
  refine g_v1V hX lk_X6_177 dX6_load_85 (c0 := 6) ok63 ⟨_, rfl, rfl⟩ (c_strikeTops hI r4 (by omega) s2) (by first | decide | omega) (by decide) rfl (Nat.le_of_ble_eq_true rfl) (fun μ' hp => ?_)
  obtain ⟨hp1, hp2⟩ := hp
  refine g_iload hX dX6_load_88 rfl ?_
  refine g_iret hX hR dX6_load_90 ⟨_, rfl, hg.symm, hp1, ?_⟩
  rw [hp2, vw_out (by omega), vw_out (by omega), vw_out (by omega), vw_out (by omega), vw_out (by omega), vw_out (by omega), vw_out (by omega), vw_out (by omega)]
