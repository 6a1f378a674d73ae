/-! the class's Packer: its small methods -/
set_option maxHeartbeats 4000000 in
theorem c_sizeOf {lnch : Launch} {V : VX} (hI : InjV V) {μ : Mem} {H j : Nat} {i : Int} (hH : μ 69 2 = (H : Int)) (h12 : H ≤ 12) (hij : i = (j : Int)) (hi : j < H) : Ct lnch yX3_sizeOf cX3_sizeOf 2 (some .int) 1 V [vr V 69, vi i] μ (pI (fun z μ' => z = μ 70 j ∧ μ' = μ)) := by
  refine Ct_of (by decide) hI (Nat.le_of_ble_eq_true rfl) (fun E hE hX hR => ?_)
  have hX : OkX V E RX3 cX3_sizeOf 2 1 := hX
  show G V E μ 0 [some (vr V 69), some (vi i)] []
  subst hij
  refine g_iload_n hX dX3_sizeOf_0 rfl ?_
  refine g_if_lt (tgt := 21) hX dX3_sizeOf_1 (by decide) ⟨by omega, by omega⟩ (fun hc => absurd hc (by omega)) (fun _ => ?_)
  refine g_iload_n hX dX3_sizeOf_4 rfl ?_
  refine g_aload_n hX dX3_sizeOf_5 rfl ?_
  refine gf_X3_18 hX dX3_sizeOf_6 ?_
  rw [hH]
  refine g_icmp_ge (tgt := 21) hX dX3_sizeOf_9 (by decide) ⟨by omega, by omega⟩ ⟨by omega, by omega⟩ (fun hc => absurd hc (by omega)) (fun _ => ?_)
  refine g_iload_n hX dX3_sizeOf_12 rfl ?_
  refine g_aload_n hX dX3_sizeOf_13 rfl ?_
  refine gf_X3_9 hX dX3_sizeOf_14 ?_
  refine g_alen hX dX3_sizeOf_17 (N := 12) (Or.inl ⟨rfl, by decide⟩) ?_
  refine g_icmp_lt (tgt := 25) hX dX3_sizeOf_18 (by decide) ⟨by omega, by omega⟩ ⟨by omega, by omega⟩ (fun _ => ?_) (fun hc => absurd hc (by omega))
  refine g_aload_n hX dX3_sizeOf_25 rfl ?_
  refine gf_X3_9 hX dX3_sizeOf_26 ?_
  refine g_iload_n hX dX3_sizeOf_29 rfl ?_
  refine g_ialdN hX dX3_sizeOf_30 (N := 12) rfl rfl (by omega) (by decide) ?_
  refine g_iret hX hR dX3_sizeOf_31 ⟨_, rfl, rfl, rfl⟩
set_option maxHeartbeats 4000000 in
theorem c_roomOn {lnch : Launch} {V : VX} (hI : InjV V) {μ : Mem} {c : Nat} (hc : c < 12) : Ct lnch yX3_roomOn cX3_roomOn 2 (some .int) 1 V [vr V 69, vi (c : Int)] μ (pI (fun z μ' => z = 304 - μ 71 c ∧ μ' = μ)) := by
  refine Ct_of (by decide) hI (Nat.le_of_ble_eq_true rfl) (fun E hE hX hR => ?_)
  have hX : OkX V E RX3 cX3_roomOn 2 1 := hX
  show G V E μ 0 [some (vr V 69), some (vi (c : Int))] []
  refine g_iload_n hX dX3_roomOn_0 rfl ?_
  refine g_if_lt (tgt := 13) hX dX3_roomOn_1 (by decide) ⟨by omega, by omega⟩ (fun hc => absurd hc (by omega)) (fun _ => ?_)
  refine g_iload_n hX dX3_roomOn_4 rfl ?_
  refine g_aload_n hX dX3_roomOn_5 rfl ?_
  refine gf_X3_15 hX dX3_roomOn_6 ?_
  refine g_alen hX dX3_roomOn_9 (N := 12) (Or.inl ⟨rfl, by decide⟩) ?_
  refine g_icmp_lt (tgt := 17) hX dX3_roomOn_10 (by decide) ⟨by omega, by omega⟩ ⟨by omega, by omega⟩ (fun _ => ?_) (fun hc => absurd hc (by omega))
  refine g_sipush hX dX3_roomOn_17 rfl ?_
  refine g_aload_n hX dX3_roomOn_20 rfl ?_
  refine gf_X3_15 hX dX3_roomOn_21 ?_
  refine g_iload_n hX dX3_roomOn_24 rfl ?_
  refine g_ialdN hX dX3_roomOn_25 (N := 12) rfl rfl (by omega) (by decide) ?_
  refine g_isub hX dX3_roomOn_26 ?_
  refine g_iret hX hR dX3_roomOn_27 ⟨_, rfl, rfl, rfl⟩
set_option maxHeartbeats 4000000 in
theorem c_empty {lnch : Launch} {V : VX} (hI : InjV V) {μ : Mem} {c : Nat} (hc : c < 12) : Ct lnch yX3_empty cX3_empty 2 none 1 V [vr V 69, vi (c : Int)] μ (pV (fun μ' => μ' = mset μ 71 c 0)) := by
  refine Ct_of (by decide) hI (Nat.le_of_ble_eq_true rfl) (fun E hE hX hR => ?_)
  have hX : OkX V E RX3 cX3_empty 2 1 := hX
  show G V E μ 0 [some (vr V 69), some (vi (c : Int))] []
  refine g_iload_n hX dX3_empty_0 rfl ?_
  refine g_if_lt (tgt := 20) hX dX3_empty_1 (by decide) ⟨by omega, by omega⟩ (fun hc => absurd hc (by omega)) (fun _ => ?_)
  refine g_iload_n hX dX3_empty_4 rfl ?_
  refine g_aload_n hX dX3_empty_5 rfl ?_
  refine gf_X3_15 hX dX3_empty_6 ?_
  refine g_alen hX dX3_empty_9 (N := 12) (Or.inl ⟨rfl, by decide⟩) ?_
  refine g_icmp_ge (tgt := 20) hX dX3_empty_10 (by decide) ⟨by omega, by omega⟩ ⟨by omega, by omega⟩ (fun hc => absurd hc (by omega)) (fun _ => ?_)
  refine g_aload_n hX dX3_empty_13 rfl ?_
  refine gf_X3_15 hX dX3_empty_14 ?_
  refine g_iload_n hX dX3_empty_17 rfl ?_
  refine g_iconst hX dX3_empty_18 ?_
  refine g_iastN hX dX3_empty_19 (N := 12) rfl rfl (by omega) (by decide) ?_
  refine g_vret hX hR dX3_empty_20 ⟨rfl, rfl⟩
set_option maxHeartbeats 4000000 in
theorem c_fill {lnch : Launch} {V : VX} (hI : InjV V) {μ : Mem} {c : Nat} {x : Int} (hc : c < 12) : Ct lnch yX3_fill cX3_fill 3 none 1 V [vr V 69, vi (c : Int), vi x] μ (pV (fun μ' => μ' = mset μ 71 c (μ 71 c + x))) := by
  refine Ct_of (by decide) hI (Nat.le_of_ble_eq_true rfl) (fun E hE hX hR => ?_)
  have hX : OkX V E RX3 cX3_fill 3 1 := hX
  show G V E μ 0 [some (vr V 69), some (vi (c : Int)), some (vi x)] []
  refine g_iload_n hX dX3_fill_0 rfl ?_
  refine g_if_lt (tgt := 23) hX dX3_fill_1 (by decide) ⟨by omega, by omega⟩ (fun hc => absurd hc (by omega)) (fun _ => ?_)
  refine g_iload_n hX dX3_fill_4 rfl ?_
  refine g_aload_n hX dX3_fill_5 rfl ?_
  refine gf_X3_15 hX dX3_fill_6 ?_
  refine g_alen hX dX3_fill_9 (N := 12) (Or.inl ⟨rfl, by decide⟩) ?_
  refine g_icmp_ge (tgt := 23) hX dX3_fill_10 (by decide) ⟨by omega, by omega⟩ ⟨by omega, by omega⟩ (fun hc => absurd hc (by omega)) (fun _ => ?_)
  refine g_aload_n hX dX3_fill_13 rfl ?_
  refine gf_X3_15 hX dX3_fill_14 ?_
  refine g_iload_n hX dX3_fill_17 rfl ?_
  refine g_dup2 hX dX3_fill_18 rfl rfl ?_
  refine g_ialdN hX dX3_fill_19 (N := 12) rfl rfl (by omega) (by decide) ?_
  refine g_iload_n hX dX3_fill_20 rfl ?_
  refine g_iadd hX dX3_fill_21 ?_
  refine g_iastN hX dX3_fill_22 (N := 12) rfl rfl (by omega) (by decide) ?_
  refine g_vret hX hR dX3_fill_23 ⟨rfl, rfl⟩
/-! the class's Packer: the search -/
/-- what holds where the search stands: d items are left from the item's number on, k bins, room to be lost -/
def PK (μ : Mem) (H item d k : Nat) (sp : Int) : Prop :=
  (μ 69 2 = (H : Int) ∧ H ≤ 12 ∧ item + d = H ∧ k ≤ 12 ∧ 0 < H) ∧ (0 ≤ sp ∧ sp ≤ 10000) ∧
  (∀ i, i < H → 5 ≤ μ 70 i ∧ μ 70 i ≤ 204) ∧ (∀ i j, i < j → j < H → μ 70 j ≤ μ 70 i) ∧
  (∀ b, b < k → 0 ≤ μ 71 b ∧ μ 71 b ≤ 304) ∧ (∀ b c, b < c → c < k → μ 71 b = 0 → μ 71 c = 0) ∧
  openR (μ 70 (H - 1)) (μ 71) k = lsum (sfx (μ 70) item d) + sp
theorem mset_71 {μ : Mem} {c : Nat} {x : Int} : (mset μ 71 c (μ 71 c + x)) 71 = rup (μ 71) c x := by
  funext j
  unfold mset rup
  by_cases h : j = c
  · rw [if_pos ⟨rfl, h⟩, if_pos h]
  · rw [if_neg (fun q => h q.2), if_neg h]
theorem mset_cell {μ : Mem} {a c j : Nat} {v : Int} (h : a ≠ c) : (mset μ a j v) c = μ c := by
  funext j'
  exact mset_ne (Or.inl (fun q => h q.symm))
abbrev pB (P : Prop) (μ : Mem) : Option Value → Mem → Prop := pI (fun z μ' => ((z = 1 ∧ P) ∨ (z = 0 ∧ ¬ P)) ∧ μ' = μ)
set_option maxHeartbeats 4000000 in
theorem c_packsOn {lnch : Launch} {V : VX} (hI : InjV V) {μ : Mem} {H item d k c : Nat} {sp : Int} (hpk : PK μ H item (d + 1) k sp) (hc : c < k) (hrm : μ 71 c + μ 70 item ≤ 304) (hne : ∀ b, b < c → μ 71 b ≠ 0) (hd : d ≤ 11) (ih : ∀ (l' : Launch) (ν : Mem) (sp' : Int), PK ν H (item + 1) d k sp' → Ct l' yX3_packs cX3_packs 8 (some .boolean) (2 * d + 1) V [vr V 69, vi ((item + 1 : Nat) : Int), vi (k : Int), vi sp'] ν (pB (DD (sfx (ν 70) (item + 1) d) k (ν 71)) ν)) : Ct lnch yX3_packsOn cX3_packsOn 9 (some .boolean) (2 * d + 2) V [vr V 69, vi (c : Int), vi (item : Int), vi (k : Int), vi sp] μ (pB (DD (sfx (μ 70) (item + 1) d) k (rup (μ 71) c (μ 70 item))) μ) := by
  refine Ct_of (by decide) hI (Nat.le_of_ble_eq_true rfl) (fun E hE hX hR => ?_)
  have hX : OkX V E RX3 cX3_packsOn 9 (2 * d + 2) := hX
  show G V E μ 0 [some (vr V 69), some (vi (c : Int)), some (vi (item : Int)), some (vi (k : Int)), some (vi sp), none, none, none, none] []
  obtain ⟨⟨a1, a2, a3, a4, a5⟩, ⟨s1, s2⟩, hsz, hsrt, hld, hes, hop⟩ := id hpk
  have hx := hsz item (by omega)
  have hw := hsz (H - 1) (by omega)
  have hwx : μ 70 (H - 1) ≤ μ 70 item := by
    by_cases e : item = H - 1
    · rw [← e]; exact Int.le_refl _
    · exact hsrt item (H - 1) (by omega) (by omega)
  have hlc := hld c hc
  -- the bins' room behind it
  have hup := openR_up (w := μ 70 (H - 1)) (x := μ 70 item) (r := μ 71) k hc
  rw [if_neg (show ¬ 304 - μ 71 c < μ 70 (H - 1) by omega), hop] at hup
  have hls : lsum (sfx (μ 70) item (d + 1)) = μ 70 item + lsum (sfx (μ 70) (item + 1) d) := rfl
  rw [hls] at hup
  have hsm : ∀ y ∈ sfx (μ 70) (item + 1) d, μ 70 (H - 1) ≤ y := fun y hy => by
    obtain ⟨j, j1, j2, rfl⟩ := sfx_mem d (item + 1) hy
    by_cases e : j = H - 1
    · rw [← e]; exact Int.le_refl _
    · exact hsrt j (H - 1) (by omega) (by omega)
  have go : ∀ lost : Int, 0 ≤ lost → lost = (if 304 - μ 71 c - μ 70 item < μ 70 (H - 1) then 304 - μ 71 c - μ 70 item else 0) →
      G V E μ 38 [some (vr V 69), some (vi (c : Int)), some (vi (item : Int)), some (vi (k : Int)), some (vi sp), some (vi (μ 70 item)), some (vi (304 - μ 71 c - μ 70 item)), none, none] [vi lost] := fun lost hl0 hl => by
    have hl2 : lost ≤ 304 := by rw [hl]; split <;> omega
    have hop2 : openR (μ 70 (H - 1)) (rup (μ 71) c (μ 70 item)) k = lsum (sfx (μ 70) (item + 1) d) + (sp - lost) := by
      rw [hup, hl]
      by_cases e : 304 - μ 71 c - μ 70 item < μ 70 (H - 1)
      · rw [if_pos (by omega), if_pos e]; omega
      · rw [if_neg (by omega), if_neg e]; omega
    refine st_istore_9_7 hX dX3_packsOn_38 (by first | exact ck_i _ | exact ck_r _ _ | exact ck_n | exact ck_0) ?_
    refine g_iload hX dX3_packsOn_40 rfl ?_
    refine g_iload hX dX3_packsOn_42 rfl ?_
    refine g_icmp_le (tgt := 49) hX dX3_packsOn_44 (by decide) ⟨by omega, by omega⟩ ⟨by omega, by omega⟩ (fun h1 => ?_) (fun h1 => ?_)
    rotate_left
    · refine g_iconst hX dX3_packsOn_47 ?_
      refine g_zret hX hR dX3_packsOn_48 (Or.inl rfl) ⟨_, rfl, Or.inr ⟨rfl, fun hD => ?_⟩, rfl⟩
      have := DD_open (by omega) hsm hD
      omega
    have hpk2 : PK (mset μ 71 c (μ 71 c + μ 70 item)) H (item + 1) d k (sp - lost) := by
      refine ⟨⟨by rw [mset_ne (Or.inl (by decide))]; exact a1, a2, by omega, a4, a5⟩, by omega, ?_, ?_, ?_, ?_, ?_⟩
      · rw [mset_cell (by decide)]; exact hsz
      · rw [mset_cell (by decide)]; exact hsrt
      · intro b hb
        rw [mset_71]
        by_cases e : b = c
        · rw [e, rup_eq]; omega
        · rw [rup_ne e]; exact hld b hb
      · intro b c' h2 h3 h4
        rw [mset_71] at h4 ⊢
        by_cases e : b = c
        · rw [e, rup_eq] at h4; omega
        · rw [rup_ne e] at h4
          by_cases e2 : c' = c
          · rw [e2] at h2; exact absurd h4 (hne b h2)
          · rw [rup_ne e2]; exact hes b c' h2 h3 h4
      · rw [mset_71, mset_cell (by decide)]; exact hop2
    refine g_aload_n hX dX3_packsOn_49 rfl ?_
    refine g_iload_n hX dX3_packsOn_50 rfl ?_
    refine g_iload hX dX3_packsOn_51 rfl ?_
    refine g_v2V hX lk_X3_36 dX3_packsOn_53 (c0 := 3) ok69 ⟨_, rfl, rfl⟩ (c_fill hI (by omega)) (by first | decide | omega) (by decide) rfl (Nat.le_of_ble_eq_true rfl) (fun μ' hp => ?_)
    rw [hp]
    clear hp μ'
    refine g_aload_n hX dX3_packsOn_56 rfl ?_
    refine g_iload_n hX dX3_packsOn_57 rfl ?_
    refine g_iconst hX dX3_packsOn_58 ?_
    refine g_iadd hX dX3_packsOn_59 ?_
    refine g_iload_n hX dX3_packsOn_60 rfl ?_
    refine g_iload hX dX3_packsOn_61 rfl ?_
    refine g_iload hX dX3_packsOn_63 rfl ?_
    refine g_isub hX dX3_packsOn_65 ?_
    refine g_v3I hX lk_X3_44 dX3_packsOn_66 (c0 := 3) ok69 ⟨_, rfl, rfl⟩ (ih E.1.2.1 _ _ hpk2) (by first | decide | omega) (by decide) rfl (Nat.le_of_ble_eq_true rfl) (fun z μ' hp => ?_)
    obtain ⟨hz, hm⟩ := hp
    rw [hm]; clear hm μ'
    rw [mset_71, mset_cell (by decide)] at hz
    have hz01 : z = 0 ∨ z = 1 := by rcases hz with h | h <;> omega
    refine st_istore_9_8 hX dX3_packsOn_69 (by first | exact ck_i _ | exact ck_r _ _ | exact ck_n | exact ck_0) ?_
    refine g_aload_n hX dX3_packsOn_71 rfl ?_
    refine g_iload_n hX dX3_packsOn_72 rfl ?_
    refine g_iload hX dX3_packsOn_73 rfl ?_
    refine g_ineg hX dX3_packsOn_75 ?_
    refine g_v2V hX lk_X3_36 dX3_packsOn_76 (c0 := 3) ok69 ⟨_, rfl, rfl⟩ (c_fill hI (by omega)) (by first | decide | omega) (by decide) rfl (Nat.le_of_ble_eq_true rfl) (fun μ' hp => ?_)
    rw [hp]
    clear hp μ'
    simp (disch := omega) only [mset_ne, mset_same]
    have eback : mset (mset μ 71 c (μ 71 c + μ 70 item)) 71 c (μ 71 c + μ 70 item + -μ 70 item) = μ := by
      rw [mset_over, mset_id (by omega)]
    rw [eback]
    refine g_iload hX dX3_packsOn_79 rfl ?_
    refine g_zret hX hR dX3_packsOn_81 hz01 ⟨_, rfl, hz, rfl⟩
  refine g_aload_n hX dX3_packsOn_0 rfl ?_
  refine g_iload_n hX dX3_packsOn_1 rfl ?_
  refine g_v1I hX lk_X3_25 dX3_packsOn_2 (c0 := 3) ok69 ⟨_, rfl, rfl⟩ (c_sizeOf (j := item) hI a1 a2 rfl (by omega)) (by first | decide | omega) (by decide) rfl (Nat.le_of_ble_eq_true rfl) (fun z μ' hp => ?_)
  obtain ⟨rfl, hm⟩ := hp
  rw [hm]
  clear hm μ'
  refine st_istore_9_5 hX dX3_packsOn_5 (by first | exact ck_i _ | exact ck_r _ _ | exact ck_n | exact ck_0) ?_
  refine g_aload_n hX dX3_packsOn_7 rfl ?_
  refine g_iload_n hX dX3_packsOn_8 rfl ?_
  refine g_v1I hX lk_X3_29 dX3_packsOn_9 (c0 := 3) ok69 ⟨_, rfl, rfl⟩ (c_roomOn hI (by omega)) (by first | decide | omega) (by decide) rfl (Nat.le_of_ble_eq_true rfl) (fun z μ' hp => ?_)
  obtain ⟨rfl, hm⟩ := hp
  rw [hm]
  clear hm μ'
  refine g_iload hX dX3_packsOn_12 rfl ?_
  refine g_isub hX dX3_packsOn_14 ?_
  refine st_istore_9_6 hX dX3_packsOn_15 (by first | exact ck_i _ | exact ck_r _ _ | exact ck_n | exact ck_0) ?_
  refine g_iload hX dX3_packsOn_17 rfl ?_
  refine g_aload_n hX dX3_packsOn_19 rfl ?_
  refine g_aload_n hX dX3_packsOn_20 rfl ?_
  refine gf_X3_18 hX dX3_packsOn_21 ?_
  refine g_iconst hX dX3_packsOn_24 ?_
  refine g_isub hX dX3_packsOn_25 ?_
  refine g_v1I hX lk_X3_25 dX3_packsOn_26 (c0 := 3) ok69 ⟨_, rfl, rfl⟩ (c_sizeOf (j := H - 1) hI a1 a2 (by omega) (by omega)) (by first | decide | omega) (by decide) rfl (Nat.le_of_ble_eq_true rfl) (fun z μ' hp => ?_)
  obtain ⟨rfl, hm⟩ := hp
  rw [hm]
  clear hm μ'
  refine g_icmp_ge (tgt := 37) hX dX3_packsOn_29 (by decide) ⟨by omega, by omega⟩ ⟨by omega, by omega⟩ (fun h0 => ?_) (fun h0 => ?_)
  · refine g_iconst hX dX3_packsOn_37 ?_
    exact go 0 (by omega) (by rw [if_neg (by omega)])
  · refine g_iload hX dX3_packsOn_32 rfl ?_
    refine g_goto (tgt := 38) hX dX3_packsOn_34 (by decide) ?_
    exact go _ (by omega) (by rw [if_pos (by omega)])
set_option maxHeartbeats 4000000 in
theorem c_packsS {lnch : Launch} {V : VX} (hI : InjV V) {μ : Mem} {H item d k : Nat} {sp : Int} (hpk : PK μ H item d k sp) (hd : d ≤ 12) (ih : ∀ d', d = d' + 1 → ∀ (l' : Launch) (c : Nat), c < k → μ 71 c + μ 70 item ≤ 304 → (∀ b, b < c → μ 71 b ≠ 0) → Ct l' yX3_packsOn cX3_packsOn 9 (some .boolean) (2 * d' + 2) V [vr V 69, vi (c : Int), vi (item : Int), vi (k : Int), vi sp] μ (pB (DD (sfx (μ 70) (item + 1) d') k (rup (μ 71) c (μ 70 item))) μ)) : Ct lnch yX3_packs cX3_packs 8 (some .boolean) (2 * d + 1) V [vr V 69, vi (item : Int), vi (k : Int), vi sp] μ (pB (DD (sfx (μ 70) item d) k (μ 71)) μ) := by
  refine Ct_of (by decide) hI (Nat.le_of_ble_eq_true rfl) (fun E hE hX hR => ?_)
  have hX : OkX V E RX3 cX3_packs 8 (2 * d + 1) := hX
  show G V E μ 0 [some (vr V 69), some (vi (item : Int)), some (vi (k : Int)), some (vi sp), none, none, none, none] []
  obtain ⟨⟨a1, a2, a3, a4, a5⟩, ⟨s1, s2⟩, hsz, hsrt, hld, hes, hop⟩ := id hpk
  refine g_iload_n hX dX3_packs_0 rfl ?_
  refine g_aload_n hX dX3_packs_1 rfl ?_
  refine gf_X3_18 hX dX3_packs_2 ?_
  match d, a3, hd, ih, hR, hX with
  | 0, a3, hd, ih, hR, hX =>
    refine g_icmp_lt (tgt := 10) hX dX3_packs_5 (by decide) ⟨by omega, by omega⟩ ⟨by omega, by omega⟩ (fun hc => absurd hc (by omega)) (fun _ => ?_)
    refine g_iconst hX dX3_packs_8 ?_
    refine g_zret hX hR dX3_packs_9 (Or.inr rfl) ⟨_, rfl, Or.inl ⟨rfl, trivial⟩, rfl⟩
  | d' + 1, a3, hd, ih, hR, hX =>
    have ih := ih d' rfl
    have hx := hsz item (by omega)
    have hw := hsz (H - 1) (by omega)
    have hall : ∀ y ∈ sfx (μ 70) (item + 1) d', μ 70 (H - 1) ≤ y ∧ y ≤ μ 70 item := fun y hy => by
      obtain ⟨j, j1, j2, rfl⟩ := sfx_mem d' (item + 1) hy
      refine ⟨?_, hsrt item j (by omega) (by omega)⟩
      by_cases e : j = H - 1
      · rw [← e]; exact Int.le_refl _
      · exact hsrt j (H - 1) (by omega) (by omega)
    have hl0 : ∀ y ∈ sfx (μ 70) (item + 1) d', 0 ≤ y := fun y hy => by have := (hall y hy).1; omega
    have loop : ∀ (f c : Nat) (x7 : Option Value), c + f = k → (∀ b, b < c → μ 71 b ≠ 0) → (∀ b, b < c → μ 71 b + μ 70 item ≤ 304 → ¬ DD (sfx (μ 70) (item + 1) d') k (rup (μ 71) b (μ 70 item))) →
        G V E μ 32 [some (vr V 69), some (vi (item : Int)), some (vi (k : Int)), some (vi sp), some (vi (μ 70 item)), some (vi (μ 70 (H - 1))), some (vi (c : Int)), x7] [] := by
      intro f
      induction f with
      | zero =>
        intro c x7 hc hne hno
        refine g_iload hX dX3_packs_32 rfl ?_
        refine g_iload_n hX dX3_packs_34 rfl ?_
        refine g_icmp_ge (tgt := 102) hX dX3_packs_35 (by decide) ⟨by omega, by omega⟩ ⟨by omega, by omega⟩ (fun _ => ?_) (fun hc => absurd hc (by omega))
        refine g_iconst hX dX3_packs_102 ?_
        refine g_zret hX hR dX3_packs_103 (Or.inl rfl) ⟨_, rfl, Or.inr ⟨rfl, fun hD => ?_⟩, rfl⟩
        obtain ⟨b, hb, hb2, hb3⟩ := hD
        exact hno b (by omega) hb2 hb3
      | succ f ihf =>
        intro c x7 hc hne hno
        have hlc := hld c (by omega)
        have next : μ 71 c ≠ 0 → (μ 71 c + μ 70 item ≤ 304 → ¬ DD (sfx (μ 70) (item + 1) d') k (rup (μ 71) c (μ 70 item))) →
            G V E μ 96 [some (vr V 69), some (vi (item : Int)), some (vi (k : Int)), some (vi sp), some (vi (μ 70 item)), some (vi (μ 70 (H - 1))), some (vi (c : Int)), some (vi (304 - μ 71 c))] [] := fun h1 h2 => by
          refine st_iinc_8_6 hX dX3_packs_96 (by first | exact ck_i _ | exact ck_r _ _ | exact ck_n | exact ck_0) ?_
          refine g_goto (tgt := 32) hX dX3_packs_99 (by decide) ?_
          refine ihf (c + 1) _ (by omega) (fun b hb => ?_) (fun b hb => ?_)
          · by_cases e : b = c
            · rw [e]; exact h1
            · exact hne b (by omega)
          · by_cases e : b = c
            · rw [e]; exact h2
            · exact hno b (by omega)
        refine g_iload hX dX3_packs_32 rfl ?_
        refine g_iload_n hX dX3_packs_34 rfl ?_
        refine g_icmp_ge (tgt := 102) hX dX3_packs_35 (by decide) ⟨by omega, by omega⟩ ⟨by omega, by omega⟩ (fun hc => absurd hc (by omega)) (fun _ => ?_)
        refine g_aload_n hX dX3_packs_38 rfl ?_
        refine g_iload hX dX3_packs_39 rfl ?_
        refine g_v1I hX lk_X3_29 dX3_packs_41 (c0 := 3) ok69 ⟨_, rfl, rfl⟩ (c_roomOn hI (by omega)) (by first | decide | omega) (by decide) rfl (Nat.le_of_ble_eq_true rfl) (fun z μ' hp => ?_)
        obtain ⟨rfl, hm⟩ := hp
        rw [hm]
        clear hm μ'
        refine st_istore_8_7 hX dX3_packs_44 (by first | exact ck_i _ | exact ck_r _ _ | exact ck_n | exact ck_0) ?_
        refine g_iload hX dX3_packs_46 rfl ?_
        refine g_iload hX dX3_packs_48 rfl ?_
        refine g_icmp_ge (tgt := 56) hX dX3_packs_50 (by decide) ⟨by omega, by omega⟩ ⟨by omega, by omega⟩ (fun h1 => ?_) (fun h1 => ?_)
        rotate_left
        · refine g_goto (tgt := 96) hX dX3_packs_53 (by decide) ?_
          exact next (by omega) (fun h => by omega)
        refine g_aload_n hX dX3_packs_56 rfl ?_
        refine g_iload hX dX3_packs_57 rfl ?_
        refine g_iload_n hX dX3_packs_59 rfl ?_
        refine g_iload_n hX dX3_packs_60 rfl ?_
        refine g_iload_n hX dX3_packs_61 rfl ?_
        refine g_v4I hX lk_X3_48 dX3_packs_62 (c0 := 3) ok69 ⟨_, rfl, rfl⟩ (ih E.1.2.1 c (by omega) (by omega) hne) (by first | decide | omega) (by decide) rfl (Nat.le_of_ble_eq_true rfl) (fun z μ' hp => ?_)
        obtain ⟨hz, hm⟩ := hp
        rw [hm]; clear hm μ'
        rcases hz with ⟨rfl, hz⟩ | ⟨rfl, hz⟩
        · refine g_if_eq (tgt := 70) hX dX3_packs_65 (by decide) ⟨by omega, by omega⟩ (fun hc => absurd hc (by omega)) (fun _ => ?_)
          refine g_iconst hX dX3_packs_68 ?_
          refine g_zret hX hR dX3_packs_69 (Or.inr rfl) ⟨_, rfl, Or.inl ⟨rfl, c, by omega, by omega, hz⟩, rfl⟩
        have stop : (∀ b, b < k → c < b → μ 71 b + μ 70 item ≤ 304 → DD (sfx (μ 70) (item + 1) d') k (rup (μ 71) b (μ 70 item)) → DD (sfx (μ 70) (item + 1) d') k (rup (μ 71) c (μ 70 item))) →
            G V E μ 94 [some (vr V 69), some (vi (item : Int)), some (vi (k : Int)), some (vi sp), some (vi (μ 70 item)), some (vi (μ 70 (H - 1))), some (vi (c : Int)), some (vi (304 - μ 71 c))] [] := fun hst => by
          refine g_iconst hX dX3_packs_94 ?_
          refine g_zret hX hR dX3_packs_95 (Or.inl rfl) ⟨_, rfl, Or.inr ⟨rfl, fun hD => ?_⟩, rfl⟩
          obtain ⟨b, hb, hb2, hb3⟩ := hD
          rcases Nat.lt_trichotomy b c with e | e | e
          · exact hno b e hb2 hb3
          · subst e; exact hz hb3
          · exact hz (hst b hb e hb2 hb3)
        have hld' : ∀ b, b < k → μ 71 b ≤ 304 := fun b hb => (hld b hb).2
        refine g_if_eq (tgt := 70) hX dX3_packs_65 (by decide) ⟨by omega, by omega⟩ (fun _ => ?_) (fun hc => absurd hc (by omega))
        refine g_iload hX dX3_packs_70 rfl ?_
        refine g_sipush hX dX3_packs_72 rfl ?_
        refine g_icmp_eq (tgt := 94) hX dX3_packs_75 (by decide) ⟨by omega, by omega⟩ ⟨by omega, by omega⟩ (fun h2 => ?_) (fun h2 => ?_)
        · refine stop (fun b hb hcb hb2 hb3 => DD_sw hb (by omega) ?_ hb3)
          have h0 : μ 71 c = 0 := by omega
          rw [h0]; exact hes c b hcb hb h0
        refine g_iload hX dX3_packs_78 rfl ?_
        refine g_iload hX dX3_packs_80 rfl ?_
        refine g_icmp_eq (tgt := 94) hX dX3_packs_82 (by decide) ⟨by omega, by omega⟩ ⟨by omega, by omega⟩ (fun h3 => ?_) (fun h3 => ?_)
        · refine stop (fun b hb hcb hb2 hb3 => DD_ex hl0 (by omega) hld' hb (by omega) (by omega) hb2 (by omega) (fun a ha => by omega) hb3)
        refine g_iload hX dX3_packs_85 rfl ?_
        refine g_iconst hX dX3_packs_87 ?_
        refine g_iload hX dX3_packs_88 rfl ?_
        refine g_imul hX dX3_packs_90 ?_
        refine g_icmp_ge (tgt := 96) hX dX3_packs_91 (by decide) ⟨by omega, by omega⟩ ⟨by omega, by omega⟩ (fun h4 => ?_) (fun h4 => ?_)
        · exact next (by omega) (fun _ => hz)
        · refine stop (fun b hb hcb hb2 hb3 => DD_ex hl0 (by omega) hld' hb (by omega) (by omega) hb2 (by omega) (fun a ha => csum_one (w := μ 70 (H - 1)) (by omega) hall (by omega) (by omega)) hb3)
    refine g_icmp_lt (tgt := 10) hX dX3_packs_5 (by decide) ⟨by omega, by omega⟩ ⟨by omega, by omega⟩ (fun _ => ?_) (fun hc => absurd hc (by omega))
    refine g_aload_n hX dX3_packs_10 rfl ?_
    refine g_iload_n hX dX3_packs_11 rfl ?_
    refine g_v1I hX lk_X3_25 dX3_packs_12 (c0 := 3) ok69 ⟨_, rfl, rfl⟩ (c_sizeOf (j := item) hI a1 a2 rfl (by omega)) (by first | decide | omega) (by decide) rfl (Nat.le_of_ble_eq_true rfl) (fun z μ' hp => ?_)
    obtain ⟨rfl, hm⟩ := hp
    rw [hm]
    clear hm μ'
    refine st_istore_8_4 hX dX3_packs_15 (by first | exact ck_i _ | exact ck_r _ _ | exact ck_n | exact ck_0) ?_
    refine g_aload_n hX dX3_packs_17 rfl ?_
    refine g_aload_n hX dX3_packs_18 rfl ?_
    refine gf_X3_18 hX dX3_packs_19 ?_
    refine g_iconst hX dX3_packs_22 ?_
    refine g_isub hX dX3_packs_23 ?_
    refine g_v1I hX lk_X3_25 dX3_packs_24 (c0 := 3) ok69 ⟨_, rfl, rfl⟩ (c_sizeOf (j := H - 1) hI a1 a2 (by omega) (by omega)) (by first | decide | omega) (by decide) rfl (Nat.le_of_ble_eq_true rfl) (fun z μ' hp => ?_)
    obtain ⟨rfl, hm⟩ := hp
    rw [hm]
    clear hm μ'
    refine st_istore_8_5 hX dX3_packs_27 (by first | exact ck_i _ | exact ck_r _ _ | exact ck_n | exact ck_0) ?_
    refine g_iconst hX dX3_packs_29 ?_
    refine st_istore_8_6 hX dX3_packs_30 (by first | exact ck_i _ | exact ck_r _ _ | exact ck_n | exact ck_0) ?_
    exact loop k 0 none (by omega) (fun b hb => absurd hb (by omega)) (fun b hb => absurd hb (by omega))
theorem c_packs {V : VX} (hI : InjV V) : ∀ (d : Nat) {lnch : Launch} {μ : Mem} {H item k : Nat} {sp : Int}, d ≤ 12 → PK μ H item d k sp → Ct lnch yX3_packs cX3_packs 8 (some .boolean) (2 * d + 1) V [vr V 69, vi (item : Int), vi (k : Int), vi sp] μ (pB (DD (sfx (μ 70) item d) k (μ 71)) μ) := by
  intro d
  induction d with
  | zero => intro lnch μ H item k sp hd hpk; exact c_packsS hI hpk hd (fun d' h => by omega)
  | succ d ih =>
    intro lnch μ H item k sp hd hpk
    refine c_packsS hI hpk hd (fun d' h l' c hc hrm hne => ?_)
    obtain rfl : d' = d := by omega
    exact c_packsOn hI hpk hc hrm hne (by omega) (fun l'' ν sp' hp => ih (by omega) hp)
