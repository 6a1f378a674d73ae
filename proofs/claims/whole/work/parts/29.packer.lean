/-! the class's Packer: plain number, least number, filling; the call casts -/
theorem sum_le_of {f : Nat → Int} : ∀ (d i : Nat), (∀ j, i ≤ j → j < i + d → 5 ≤ f j ∧ f j ≤ 204) → 0 ≤ lsum (sfx f i d) ∧ lsum (sfx f i d) ≤ 204 * (d : Int) := by
  intro d
  induction d with
  | zero => intro i _; exact ⟨Int.le_refl 0, (by decide : (0 : Int) ≤ 204 * ((0 : Nat) : Int))⟩
  | succ d ih =>
    intro i h
    have h1 := h i (by omega) (by omega)
    have h2 := ih (i + 1) (fun j a b => h j (by omega) (by omega))
    show 0 ≤ f i + lsum (sfx f (i + 1) d) ∧ f i + lsum (sfx f (i + 1) d) ≤ 204 * ((d + 1 : Nat) : Int)
    omega
def K71 (μ μ' : Mem) : Prop := ∀ k, k ≠ 71 → μ' k = μ k
set_option maxHeartbeats 4000000 in
theorem c_plain {lnch : Launch} {V : VX} (hI : InjV V) {μ : Mem} {H : Nat} (hH : μ 69 2 = (H : Int)) (h12 : H ≤ 12) (hsz : ∀ i, i < H → 5 ≤ μ 70 i ∧ μ 70 i ≤ 204) : Ct lnch yX3_plainCasts cX3_plainCasts 5 (some .int) 2 V [vr V 69] μ (pI (fun z μ' => z = (FFn (sfx (μ 70) 0 H) (fun _ => 0) 0 : Int) ∧ K71 μ μ')) := by
  refine Ct_of (by decide) hI (Nat.le_of_ble_eq_true rfl) (fun E hE hX hR => ?_)
  have hX : OkX V E RX3 cX3_plainCasts 5 2 := hX
  show G V E μ 0 [some (vr V 69), none, none, none, none] []
  have loop : ∀ (d i c : Nat) (ν : Mem) (x3 x4 : Option Value), i + d = H → c ≤ i → (∀ b, b < c → 0 ≤ ν 71 b ∧ ν 71 b ≤ 304) → K71 μ ν → FFn (sfx (μ 70) i d) (ν 71) c = FFn (sfx (μ 70) 0 H) (fun _ => 0) 0 →
      G V E ν 4 [some (vr V 69), some (vi (c : Int)), some (vi (i : Int)), x3, x4] [] := by
    intro d
    induction d with
    | zero =>
      intro i c ν x3 x4 hi hc hl hk hF
      have e2 : ν 69 2 = (H : Int) := by rw [hk 69 (by decide)]; exact hH
      refine g_iload_n hX dX3_plainCasts_4 rfl ?_
      refine g_aload_n hX dX3_plainCasts_5 rfl ?_
      refine gf_X3_18 hX dX3_plainCasts_6 ?_
      refine g_icmp_ge (tgt := 71) hX dX3_plainCasts_9 (by decide) ⟨by omega, by omega⟩ ⟨by omega, by omega⟩ (fun _ => ?_) (fun hc => absurd hc (by omega))
      refine g_iload_n hX dX3_plainCasts_71 rfl ?_
      refine g_iret hX hR dX3_plainCasts_72 ⟨_, rfl, by rw [← hF]; rfl, hk⟩
    | succ d ih =>
      intro i c ν x3 x4 hi hc hl hk hF
      have e2 : ν 69 2 = (H : Int) := by rw [hk 69 (by decide)]; exact hH
      have e70 : ν 70 = μ 70 := hk 70 (by decide)
      have hx := hsz i (by omega)
      have fin : G V E ν 43 [some (vr V 69), some (vi (c : Int)), some (vi (i : Int)), some (vi (μ 70 i)), some (vi (ffp (ν 71) (μ 70 i) c c 0 : Int))] [] := by
        have hpp := ffp_in (ν 71) (μ 70 i) c c 0 (by omega)
        have hstep : FFn (sfx (μ 70) (i + 1) d) (ffr (ν 71) (μ 70 i) c (ffp (ν 71) (μ 70 i) c c 0)) (if ffp (ν 71) (μ 70 i) c c 0 = c then c + 1 else c) = FFn (sfx (μ 70) 0 H) (fun _ => 0) 0 := hF
        generalize ffp (ν 71) (μ 70 i) c c 0 = p at hpp hstep ⊢
        have hp12 : p < 12 := by rcases hpp with h | h <;> omega
        refine g_iload hX dX3_plainCasts_43 rfl ?_
        refine g_iload_n hX dX3_plainCasts_45 rfl ?_
        refine g_icmp_ne (tgt := 58) hX dX3_plainCasts_46 (by decide) ⟨by omega, by omega⟩ ⟨by omega, by omega⟩ (fun h1 => ?_) (fun h1 => ?_)
        · have hpc : p ≠ c := fun h => h1 (by rw [h])
          rcases hpp with h2 | ⟨h2, h3⟩
          · exact absurd h2.1 hpc
          rw [if_neg hpc] at hstep
          have hlp := hl p h2
          refine g_aload_n hX dX3_plainCasts_58 rfl ?_
          refine g_iload hX dX3_plainCasts_59 rfl ?_
          refine g_iload_n hX dX3_plainCasts_61 rfl ?_
          refine g_v2V hX lk_X3_36 dX3_plainCasts_62 (c0 := 3) ok69 ⟨_, rfl, rfl⟩ (c_fill hI (by omega)) (by first | decide | omega) (by decide) rfl (Nat.le_of_ble_eq_true rfl) (fun μ' hp => ?_)
          rw [hp]
          clear hp μ'
          refine st_iinc_5_2 hX dX3_plainCasts_65 (by first | exact ck_i _ | exact ck_r _ _ | exact ck_n | exact ck_0) ?_
          refine g_goto (tgt := 4) hX dX3_plainCasts_68 (by decide) ?_
          refine ih (i + 1) c _ _ _ (by omega) (by omega) (fun b hb => ?_) (fun k hk2 => by rw [mset_cell (fun q => hk2 q.symm)]; exact hk k hk2) ?_
          · by_cases e : b = p
            · rw [e, mset_same]; omega
            · rw [mset_ne (Or.inr e)]; exact hl b hb
          · rw [← hstep]
            refine FFn_cg (fun b hb => ?_)
            unfold ffr
            by_cases e : b = p
            · rw [e, mset_same, if_pos rfl, if_neg hpc]
            · rw [mset_ne (Or.inr e), if_neg e]
        · have hpc : p = c := by omega
          subst hpc
          rw [if_pos rfl] at hstep
          refine g_aload_n hX dX3_plainCasts_49 rfl ?_
          refine g_iload hX dX3_plainCasts_50 rfl ?_
          refine g_v1V hX lk_X3_32 dX3_plainCasts_52 (c0 := 3) ok69 ⟨_, rfl, rfl⟩ (c_empty hI (by omega)) (by first | decide | omega) (by decide) rfl (Nat.le_of_ble_eq_true rfl) (fun μ' hp => ?_)
          rw [hp]
          clear hp μ'
          refine st_iinc_5_1 hX dX3_plainCasts_55 (by first | exact ck_i _ | exact ck_r _ _ | exact ck_n | exact ck_0) ?_
          refine g_aload_n hX dX3_plainCasts_58 rfl ?_
          refine g_iload hX dX3_plainCasts_59 rfl ?_
          refine g_iload_n hX dX3_plainCasts_61 rfl ?_
          refine g_v2V hX lk_X3_36 dX3_plainCasts_62 (c0 := 3) ok69 ⟨_, rfl, rfl⟩ (c_fill hI (by omega)) (by first | decide | omega) (by decide) rfl (Nat.le_of_ble_eq_true rfl) (fun μ' hp => ?_)
          rw [hp]
          clear hp μ'
          simp (disch := omega) only [mset_ne, mset_same]
          refine st_iinc_5_2 hX dX3_plainCasts_65 (by first | exact ck_i _ | exact ck_r _ _ | exact ck_n | exact ck_0) ?_
          refine g_goto (tgt := 4) hX dX3_plainCasts_68 (by decide) ?_
          have := ih (i + 1) (p + 1) (mset (mset ν 71 p 0) 71 p (0 + μ 70 i)) (some (vi (μ 70 i))) (some (vi (p : Int))) (by omega) (by omega) (fun b hb => ?_) (fun k hk2 => by rw [mset_cell (fun q => hk2 q.symm), mset_cell (fun q => hk2 q.symm)]; exact hk k hk2) ?_
          · exact this
          · by_cases e : b = p
            · rw [e, mset_same]; omega
            · rw [mset_ne (Or.inr e), mset_ne (Or.inr e)]; exact hl b (by omega)
          · rw [← hstep]
            refine FFn_cg (fun b hb => ?_)
            unfold ffr
            by_cases e : b = p
            · rw [e, mset_same, if_pos rfl, if_pos rfl]; omega
            · rw [mset_ne (Or.inr e), mset_ne (Or.inr e), if_neg e]
      have inner : ∀ (e b : Nat), b + e = c → ffp (ν 71) (μ 70 i) c e b = ffp (ν 71) (μ 70 i) c c 0 → G V E ν 21 [some (vr V 69), some (vi (c : Int)), some (vi (i : Int)), some (vi (μ 70 i)), some (vi (b : Int))] [] := by
        intro e
        induction e with
        | zero =>
          intro b hb hf
          refine g_iload hX dX3_plainCasts_21 rfl ?_
          refine g_iload_n hX dX3_plainCasts_23 rfl ?_
          refine g_icmp_ge (tgt := 43) hX dX3_plainCasts_24 (by decide) ⟨by omega, by omega⟩ ⟨by omega, by omega⟩ (fun _ => ?_) (fun hc => absurd hc (by omega))
          rw [← hf] at fin
          rw [show b = ffp (ν 71) (μ 70 i) c 0 b from by show b = c; omega]
          exact fin
        | succ e ihe =>
          intro b hb hf
          have hlb := hl b (by omega)
          refine g_iload hX dX3_plainCasts_21 rfl ?_
          refine g_iload_n hX dX3_plainCasts_23 rfl ?_
          refine g_icmp_ge (tgt := 43) hX dX3_plainCasts_24 (by decide) ⟨by omega, by omega⟩ ⟨by omega, by omega⟩ (fun hc => absurd hc (by omega)) (fun _ => ?_)
          refine g_aload_n hX dX3_plainCasts_27 rfl ?_
          refine g_iload hX dX3_plainCasts_28 rfl ?_
          refine g_v1I hX lk_X3_29 dX3_plainCasts_30 (c0 := 3) ok69 ⟨_, rfl, rfl⟩ (c_roomOn hI (by omega)) (by first | decide | omega) (by decide) rfl (Nat.le_of_ble_eq_true rfl) (fun z μ' hp => ?_)
          obtain ⟨rfl, hm⟩ := hp
          rw [hm]
          clear hm μ'
          refine g_iload_n hX dX3_plainCasts_33 rfl ?_
          replace hf : (if ν 71 b + μ 70 i ≤ 304 then b else ffp (ν 71) (μ 70 i) c e (b + 1)) = ffp (ν 71) (μ 70 i) c c 0 := hf
          refine g_icmp_ge (tgt := 43) hX dX3_plainCasts_34 (by decide) ⟨by omega, by omega⟩ ⟨by omega, by omega⟩ (fun h1 => ?_) (fun h1 => ?_)
          · rw [if_pos (by omega)] at hf
            rw [hf]
            exact fin
          · rw [if_neg (by omega)] at hf
            refine st_iinc_5_4 hX dX3_plainCasts_37 (by first | exact ck_i _ | exact ck_r _ _ | exact ck_n | exact ck_0) ?_
            refine g_goto (tgt := 21) hX dX3_plainCasts_40 (by decide) ?_
            exact ihe (b + 1) (by omega) hf
      refine g_iload_n hX dX3_plainCasts_4 rfl ?_
      refine g_aload_n hX dX3_plainCasts_5 rfl ?_
      refine gf_X3_18 hX dX3_plainCasts_6 ?_
      refine g_icmp_ge (tgt := 71) hX dX3_plainCasts_9 (by decide) ⟨by omega, by omega⟩ ⟨by omega, by omega⟩ (fun hc => absurd hc (by omega)) (fun _ => ?_)
      refine g_aload_n hX dX3_plainCasts_12 rfl ?_
      refine g_iload_n hX dX3_plainCasts_13 rfl ?_
      refine g_v1I hX lk_X3_25 dX3_plainCasts_14 (c0 := 3) ok69 ⟨_, rfl, rfl⟩ (c_sizeOf (j := i) hI e2 h12 rfl (by omega)) (by first | decide | omega) (by decide) rfl (Nat.le_of_ble_eq_true rfl) (fun z μ' hp => ?_)
      obtain ⟨rfl, hm⟩ := hp
      rw [hm]
      clear hm μ'
      rw [e70]
      refine st_istore_n_5_3 hX dX3_plainCasts_17 (by first | exact ck_i _ | exact ck_r _ _ | exact ck_n | exact ck_0) ?_
      refine g_iconst hX dX3_plainCasts_18 ?_
      refine st_istore_5_4 hX dX3_plainCasts_19 (by first | exact ck_i _ | exact ck_r _ _ | exact ck_n | exact ck_0) ?_
      exact inner c 0 (by omega) rfl
  refine g_iconst hX dX3_plainCasts_0 ?_
  refine st_istore_n_5_1 hX dX3_plainCasts_1 (by first | exact ck_i _ | exact ck_r _ _ | exact ck_n | exact ck_0) ?_
  refine g_iconst hX dX3_plainCasts_2 ?_
  refine st_istore_n_5_2 hX dX3_plainCasts_3 (by first | exact ck_i _ | exact ck_r _ _ | exact ck_n | exact ck_0) ?_
  exact loop H 0 0 μ none none (by omega) (by omega) (fun b hb => absurd hb (by omega)) (fun _ _ => rfl) (FFn_cg (fun b hb => absurd hb (by omega)))
set_option maxHeartbeats 4000000 in
theorem c_fewest {lnch : Launch} {V : VX} (hI : InjV V) {μ : Mem} {H : Nat} (hH : μ 69 2 = (H : Int)) (h12 : H ≤ 12) (hsz : ∀ i, i < H → 5 ≤ μ 70 i ∧ μ 70 i ≤ 204) (hsrt : ∀ i j, i < j → j < H → μ 70 j ≤ μ 70 i) (hsm : μ 69 3 = lsum (sfx (μ 70) 0 H)) : Ct lnch yX3_fewestCasts cX3_fewestCasts 4 (some .int) 40 V [vr V 69] μ (pI (fun z μ' => (∃ n : Nat, z = (n : Int) ∧ Lst (sfx (μ 70) 0 H) n) ∧ K71 μ μ')) := by
  refine Ct_of (by decide) hI (Nat.le_of_ble_eq_true rfl) (fun E hE hX hR => ?_)
  have hX : OkX V E RX3 cX3_fewestCasts 4 40 := hX
  show G V E μ 0 [some (vr V 69), none, none, none] []
  have hsr := sum_le_of (f := μ 70) H 0 (fun j _ h => hsz j (by omega))
  have hmem : ∀ x ∈ sfx (μ 70) 0 H, 5 ≤ x ∧ x ≤ 204 := fun x hx => by
    obtain ⟨j, _, h2, rfl⟩ := sfx_mem H 0 hx
    exact hsz j (by omega)
  have hnn : ∀ x ∈ sfx (μ 70) 0 H, 0 ≤ x := fun x hx => by have := hmem x hx; omega
  refine g_aload_n hX dX3_fewestCasts_0 rfl ?_
  refine g_v0I hX lk_X3_40 dX3_fewestCasts_1 (c0 := 3) ok69 ⟨_, rfl, rfl⟩ (c_plain hI hH h12 hsz) (by first | decide | omega) (by decide) rfl (Nat.le_of_ble_eq_true rfl) (fun z μ' hp => ?_)
  obtain ⟨rfl, hk0⟩ := hp
  have hM := FFn_DD (l := sfx (μ 70) 0 H) (r := fun _ => 0) (c := 0) (fun x hx => by have := hmem x hx; omega)
  have hM2 : DD (sfx (μ 70) 0 H) (FFn (sfx (μ 70) 0 H) (fun _ => 0) 0) (fun _ => 0) := DD_cg (fun b hb => by rw [cutR_ge (Nat.zero_le b)]) hM
  have hMle := FFn_le (l := sfx (μ 70) 0 H) (r := fun _ => 0) (c := 0)
  rw [sfx_len] at hMle
  generalize FFn (sfx (μ 70) 0 H) (fun _ => 0) 0 = N at hM2 hMle ⊢
  have loop : ∀ (d k : Nat) (ν : Mem) (x3 : Option Value), k + d = 20 → (lsum (sfx (μ 70) 0 H) + 303) / 304 ≤ (k : Int) → (∀ k', k' < k → ¬ DD (sfx (μ 70) 0 H) k' (fun _ => 0)) → K71 μ ν →
      G V E ν 20 [some (vr V 69), some (vi (N : Int)), some (vi (k : Int)), x3] [] := by
    intro d
    induction d with
    | zero =>
      intro k ν x3 hk hs hno hkk
      exact absurd hM2 (hno N (by omega))
    | succ d ih =>
      intro k ν x3 hk hs hno hkk
      refine g_iload_n hX dX3_fewestCasts_20 rfl ?_
      refine g_iload_n hX dX3_fewestCasts_21 rfl ?_
      refine g_icmp_ge (tgt := 70) hX dX3_fewestCasts_22 (by decide) ⟨by omega, by omega⟩ ⟨by omega, by omega⟩ (fun h1 => ?_) (fun h1 => ?_)
      · refine g_iload_n hX dX3_fewestCasts_70 rfl ?_
        refine g_iret hX hR dX3_fewestCasts_71 ⟨_, rfl, ⟨N, rfl, hM2, fun k' hk' => hno k' (by omega)⟩, hkk⟩
      have zl : ∀ (e j : Nat) (ξ : Mem), j + e = k → (∀ b, b < j → ξ 71 b = 0) → K71 μ ξ → G V E ξ 27 [some (vr V 69), some (vi (N : Int)), some (vi (k : Int)), some (vi (j : Int))] [] := by
        intro e
        induction e with
        | zero =>
          intro j ξ hj hz hx
          have e2 : ξ 69 2 = (H : Int) := by rw [hx 69 (by decide)]; exact hH
          have e3 : ξ 69 3 = lsum (sfx (μ 70) 0 H) := by rw [hx 69 (by decide)]; exact hsm
          have e70 : ξ 70 = μ 70 := hx 70 (by decide)
          have hpk : PK ξ H 0 H k ((k : Int) * 304 - lsum (sfx (μ 70) 0 H)) := by
            refine ⟨⟨e2, h12, by omega, by omega, by omega⟩, by omega, by rw [e70]; exact hsz, by rw [e70]; exact hsrt, fun b hb => by rw [hz b (by omega)]; decide, fun b c h1 h2 _ => hz c (by omega), ?_⟩
            have hw := hsz (H - 1) (by omega)
            rw [e70, openR_cg (r' := fun _ => 0) k (fun b hb => hz b (by omega)), openR_0 (by omega)]
            omega
          refine g_iload_n hX dX3_fewestCasts_27 rfl ?_
          refine g_iload_n hX dX3_fewestCasts_28 rfl ?_
          refine g_icmp_ge (tgt := 43) hX dX3_fewestCasts_29 (by decide) ⟨by omega, by omega⟩ ⟨by omega, by omega⟩ (fun _ => ?_) (fun hc => absurd hc (by omega))
          refine g_aload_n hX dX3_fewestCasts_43 rfl ?_
          refine g_iconst hX dX3_fewestCasts_44 ?_
          refine g_iload_n hX dX3_fewestCasts_45 rfl ?_
          refine g_iload_n hX dX3_fewestCasts_46 rfl ?_
          refine g_sipush hX dX3_fewestCasts_47 rfl ?_
          refine g_imul hX dX3_fewestCasts_50 ?_
          refine g_aload_n hX dX3_fewestCasts_51 rfl ?_
          refine gf_X3_22 hX dX3_fewestCasts_52 ?_
          rw [e3]
          refine g_isub hX dX3_fewestCasts_55 ?_
          refine g_v3I hX lk_X3_44 dX3_fewestCasts_56 (c0 := 3) ok69 ⟨_, rfl, rfl⟩ (c_packs hI H h12 hpk) (by first | decide | omega) (by decide) rfl (Nat.le_of_ble_eq_true rfl) (fun z μ' hp => ?_)
          obtain ⟨hz2, hm⟩ := hp
          rw [hm]; clear hm μ'
          rw [e70] at hz2
          rcases hz2 with ⟨rfl, hz2⟩ | ⟨rfl, hz2⟩
          · refine g_if_eq (tgt := 64) hX dX3_fewestCasts_59 (by decide) ⟨by omega, by omega⟩ (fun hc => absurd hc (by omega)) (fun _ => ?_)
            refine g_iload_n hX dX3_fewestCasts_62 rfl ?_
            refine g_iret hX hR dX3_fewestCasts_63 ⟨_, rfl, ⟨k, rfl, DD_cg (fun b hb => hz b (by omega)) hz2, hno⟩, hx⟩
          · refine g_if_eq (tgt := 64) hX dX3_fewestCasts_59 (by decide) ⟨by omega, by omega⟩ (fun _ => ?_) (fun hc => absurd hc (by omega))
            refine st_iinc_4_2 hX dX3_fewestCasts_64 (by first | exact ck_i _ | exact ck_r _ _ | exact ck_n | exact ck_0) ?_
            refine g_goto (tgt := 20) hX dX3_fewestCasts_67 (by decide) ?_
            refine ih (k + 1) ξ _ (by omega) (by omega) (fun k' hk' => ?_) hx
            by_cases e : k' = k
            · rw [e]; exact fun h => hz2 (DD_cg (fun b hb => (hz b (by omega)).symm) h)
            · exact hno k' (by omega)
        | succ e ihe =>
          intro j ξ hj hz hx
          refine g_iload_n hX dX3_fewestCasts_27 rfl ?_
          refine g_iload_n hX dX3_fewestCasts_28 rfl ?_
          refine g_icmp_ge (tgt := 43) hX dX3_fewestCasts_29 (by decide) ⟨by omega, by omega⟩ ⟨by omega, by omega⟩ (fun hc => absurd hc (by omega)) (fun _ => ?_)
          refine g_aload_n hX dX3_fewestCasts_32 rfl ?_
          refine g_iload_n hX dX3_fewestCasts_33 rfl ?_
          refine g_v1V hX lk_X3_32 dX3_fewestCasts_34 (c0 := 3) ok69 ⟨_, rfl, rfl⟩ (c_empty hI (by omega)) (by first | decide | omega) (by decide) rfl (Nat.le_of_ble_eq_true rfl) (fun μ' hp => ?_)
          rw [hp]
          clear hp μ'
          refine st_iinc_4_3 hX dX3_fewestCasts_37 (by first | exact ck_i _ | exact ck_r _ _ | exact ck_n | exact ck_0) ?_
          refine g_goto (tgt := 27) hX dX3_fewestCasts_40 (by decide) ?_
          refine ihe (j + 1) _ (by omega) (fun b hb => ?_) (fun k2 hk2 => by rw [mset_cell (fun q => hk2 q.symm)]; exact hx k2 hk2)
          by_cases e : b = j
          · rw [e, mset_same]
          · rw [mset_ne (Or.inr e)]; exact hz b (by omega)
      refine g_iconst hX dX3_fewestCasts_25 ?_
      refine st_istore_n_4_3 hX dX3_fewestCasts_26 (by first | exact ck_i _ | exact ck_r _ _ | exact ck_n | exact ck_0) ?_
      exact zl k 0 ν (by omega) (fun b hb => absurd hb (by omega)) hkk
  have e3 : μ' 69 3 = lsum (sfx (μ 70) 0 H) := by rw [hk0 69 (by decide)]; exact hsm
  refine st_istore_n_4_1 hX dX3_fewestCasts_4 (by first | exact ck_i _ | exact ck_r _ _ | exact ck_n | exact ck_0) ?_
  refine g_aload_n hX dX3_fewestCasts_5 rfl ?_
  refine gf_X3_22 hX dX3_fewestCasts_6 ?_
  rw [e3]
  refine g_sipush hX dX3_fewestCasts_9 rfl ?_
  refine g_iadd hX dX3_fewestCasts_12 ?_
  refine g_iconst hX dX3_fewestCasts_13 ?_
  refine g_isub hX dX3_fewestCasts_14 ?_
  refine g_sipush hX dX3_fewestCasts_15 rfl ?_
  refine g_idiv hX dX3_fewestCasts_18 ⟨by omega, by omega⟩ ⟨by decide, by decide⟩ (by omega) (by decide) ?_
  have hst : ∃ k0 : Nat, (lsum (sfx (μ 70) 0 H) + 304 - 1) / 304 = (k0 : Int) ∧ k0 ≤ 20 := ⟨((lsum (sfx (μ 70) 0 H) + 304 - 1) / 304).toNat, by omega, by omega⟩
  obtain ⟨k0, hk1, hk2⟩ := hst
  rw [hk1]
  refine st_istore_n_4_2 hX dX3_fewestCasts_19 (by first | exact ck_i _ | exact ck_r _ _ | exact ck_n | exact ck_0) ?_
  refine loop (20 - k0) k0 μ' none (by omega) (by omega) (fun k' hk' hD => ?_) hk0
  have := DD_sum hnn hD
  omega
def PkS (μ : Mem) (L : List Int) : Prop := ∃ H : Nat, μ 69 2 = (H : Int) ∧ H ≤ 12 ∧ L.length = H ∧ (sfx (μ 70) 0 H).Perm L ∧ (∀ i, i < H → 5 ≤ μ 70 i ∧ μ 70 i ≤ 204) ∧ (∀ i j, i < j → j < H → μ 70 j ≤ μ 70 i) ∧ μ 69 3 = lsum L
def KPk (μ μ' : Mem) : Prop := ∀ k, k ≠ 69 → k ≠ 70 → k ≠ 71 → μ' k = μ k
set_option maxHeartbeats 4000000 in
theorem c_pclr {lnch : Launch} {V : VX} (hI : InjV V) {μ : Mem}  : Ct lnch yX3_clear cX3_clear 1 none 1 V [vr V 69] μ (pV (fun μ' => PkS μ' [] ∧ KPk μ μ')) := by
  refine Ct_of (by decide) hI (Nat.le_of_ble_eq_true rfl) (fun E hE hX hR => ?_)
  have hX : OkX V E RX3 cX3_clear 1 1 := hX
  show G V E μ 0 [some (vr V 69)] []
  refine g_aload_n hX dX3_clear_0 rfl ?_
  refine g_iconst hX dX3_clear_1 ?_
  refine pf_X3_18 hX dX3_clear_2 ?_
  refine g_aload_n hX dX3_clear_5 rfl ?_
  refine g_iconst hX dX3_clear_6 ?_
  refine pf_X3_22 hX dX3_clear_7 ?_
  refine g_vret hX hR dX3_clear_10 ⟨rfl, ⟨0, by rw [mset_ne (Or.inr (by decide)), mset_same]; rfl, by decide, rfl, List.Perm.nil, fun i h => absurd h (by omega), fun i j h h2 => absurd h2 (by omega), by rw [mset_same]; rfl⟩, fun k h1 h2 h3 => by rw [mset_cell (fun q => h1 q.symm), mset_cell (fun q => h1 q.symm)]⟩
set_option maxHeartbeats 4000000 in
theorem c_padd {lnch : Launch} {V : VX} (hI : InjV V) {μ : Mem} {L : List Int} {len : Int} (hP : PkS μ L) (hL : L.length < 12) (hlen : 1 ≤ len ∧ len ≤ 200) : Ct lnch yX3_add cX3_add 4 none 1 V [vr V 69, vi len] μ (pV (fun μ' => PkS μ' (List.cons (len + 4) L) ∧ KPk μ μ')) := by
  refine Ct_of (by decide) hI (Nat.le_of_ble_eq_true rfl) (fun E hE hX hR => ?_)
  have hX : OkX V E RX3 cX3_add 4 1 := hX
  show G V E μ 0 [some (vr V 69), some (vi len), none, none] []
  obtain ⟨H, hH, h12, hLH, hperm, hsz, hsrt, hsm⟩ := hP
  have hK : KPk μ μ := fun _ _ _ _ => rfl
  have loop : ∀ (q : Nat) (f : Nat → Int) (ν : Mem), q ≤ H → ν 70 = f → ν 69 = μ 69 → KPk μ ν → (∀ i, i < q → f i = μ 70 i) → (∀ i, q < i → i ≤ H → f i = μ 70 (i - 1)) → (∀ i, q ≤ i → i < H → μ 70 i < len + 4) →
      G V E ν 23 [some (vr V 69), some (vi len), some (vi (q : Int)), some (vi (len + 4))] [] := by
    intro q
    induction q with
    | zero =>
      intro f ν hq hf h69 hk h1 h2 h3
      refine g_iload_n hX dX3_add_23 rfl ?_
      refine g_if_le (tgt := 59) hX dX3_add_24 (by decide) ⟨by omega, by omega⟩ (fun _ => ?_) (fun hc => absurd hc (by omega))
      have e2 : ν 69 2 = (H : Int) := by rw [h69]; exact hH
      have e3 : ν 69 3 = lsum L := by rw [h69]; exact hsm
      refine g_aload_n hX dX3_add_59 rfl ?_
      refine gf_X3_9 hX dX3_add_60 ?_
      refine g_iload_n hX dX3_add_63 rfl ?_
      refine g_iload_n hX dX3_add_64 rfl ?_
      refine g_iastN (i := 0) hX dX3_add_65 (N := 12) rfl (by omega) (by omega) (by decide) ?_
      refine g_aload_n hX dX3_add_66 rfl ?_
      refine g_dup hX dX3_add_67 rfl ?_
      refine gf_X3_18 hX dX3_add_68 ?_
      simp (disch := omega) only [mset_ne, mset_same]
      rw [e2]
      refine g_iconst hX dX3_add_71 ?_
      refine g_iadd hX dX3_add_72 ?_
      refine pf_X3_18 hX dX3_add_73 ?_
      refine g_aload_n hX dX3_add_76 rfl ?_
      refine g_dup hX dX3_add_77 rfl ?_
      refine gf_X3_22 hX dX3_add_78 ?_
      simp (disch := omega) only [mset_ne, mset_same]
      rw [e3]
      refine g_iload_n hX dX3_add_81 rfl ?_
      refine g_iadd hX dX3_add_82 ?_
      refine pf_X3_22 hX dX3_add_83 ?_
      have g70 : ∀ v w : Int, (mset (mset (mset ν 70 0 (len + 4)) 69 2 v) 69 3 w) 70 = (mset ν 70 0 (len + 4)) 70 := fun v w => by rw [mset_cell (by decide), mset_cell (by decide)]
      have gi : ∀ i, i < H → (mset ν 70 0 (len + 4)) 70 (i + 1) = μ 70 i := fun i hi => by
        rw [mset_ne (Or.inr (by omega)), hf, h2 (i + 1) (by omega) (by omega)]
        rfl
      refine g_vret hX hR dX3_add_86 ⟨rfl, ⟨H + 1, by rw [mset_ne (Or.inr (by decide)), mset_same]; rfl, by omega, by simp [hLH], ?_, fun i hi => ?_, fun i j h4 h5 => ?_, ?_⟩, ?_⟩
      · rw [g70]
        show (_ :: sfx _ (0 + 1) H).Perm _
        rw [mset_same, sfx_shift (μ 70) _ H 0 (fun j _ h => gi j (by omega))]
        exact List.Perm.cons _ hperm
      · rw [g70]
        match i with
        | 0 => rw [mset_same]; omega
        | i + 1 => rw [gi i (by omega)]; exact hsz i (by omega)
      · rw [g70]
        match i, j with
        | i, 0 => omega
        | 0, j + 1 => rw [mset_same, gi j (by omega)]; have := h3 j (by omega) (by omega); omega
        | i + 1, j + 1 => rw [gi i (by omega), gi j (by omega)]; exact hsrt i j (by omega) (by omega)
      · rw [mset_same]
        show lsum L + (len + 4) = len + 4 + lsum L
        omega
      · intro k a1 a2 a3
        rw [mset_cell (fun q => a1 q.symm), mset_cell (fun q => a1 q.symm), mset_cell (fun q => a2 q.symm)]
        exact hk k a1 a2 a3
    | succ q ih =>
      intro f ν hq hf h69 hk h1 h2 h3
      have e2 : ν 69 2 = (H : Int) := by rw [h69]; exact hH
      have e3 : ν 69 3 = lsum L := by rw [h69]; exact hsm
      have eq : ν 70 q = μ 70 q := by rw [hf]; exact h1 q (by omega)
      have hq5 := hsz q (by omega)
      refine g_iload_n hX dX3_add_23 rfl ?_
      refine g_if_le (tgt := 59) hX dX3_add_24 (by decide) ⟨by omega, by omega⟩ (fun hc => absurd hc (by omega)) (fun _ => ?_)
      refine g_aload_n hX dX3_add_27 rfl ?_
      refine gf_X3_9 hX dX3_add_28 ?_
      refine g_iload_n hX dX3_add_31 rfl ?_
      refine g_iconst hX dX3_add_32 ?_
      refine g_isub hX dX3_add_33 ?_
      rw [show ((q + 1 : Nat) : Int) - 1 = (q : Int) by omega]
      refine g_ialdN hX dX3_add_34 (N := 12) rfl rfl (by omega) (by decide) ?_
      rw [eq]
      refine g_iload_n hX dX3_add_35 rfl ?_
      refine g_icmp_ge (tgt := 59) hX dX3_add_36 (by decide) ⟨by omega, by omega⟩ ⟨by omega, by omega⟩ (fun h4 => ?_) (fun h4 => ?_)
      · refine g_aload_n hX dX3_add_59 rfl ?_
        refine gf_X3_9 hX dX3_add_60 ?_
        refine g_iload_n hX dX3_add_63 rfl ?_
        refine g_iload_n hX dX3_add_64 rfl ?_
        refine g_iastN (i := (q + 1)) hX dX3_add_65 (N := 12) rfl (by omega) (by omega) (by decide) ?_
        refine g_aload_n hX dX3_add_66 rfl ?_
        refine g_dup hX dX3_add_67 rfl ?_
        refine gf_X3_18 hX dX3_add_68 ?_
        simp (disch := omega) only [mset_ne, mset_same]
        rw [e2]
        refine g_iconst hX dX3_add_71 ?_
        refine g_iadd hX dX3_add_72 ?_
        refine pf_X3_18 hX dX3_add_73 ?_
        refine g_aload_n hX dX3_add_76 rfl ?_
        refine g_dup hX dX3_add_77 rfl ?_
        refine gf_X3_22 hX dX3_add_78 ?_
        simp (disch := omega) only [mset_ne, mset_same]
        rw [e3]
        refine g_iload_n hX dX3_add_81 rfl ?_
        refine g_iadd hX dX3_add_82 ?_
        refine pf_X3_22 hX dX3_add_83 ?_
        have g70 : ∀ v w : Int, (mset (mset (mset ν 70 (q + 1) (len + 4)) 69 2 v) 69 3 w) 70 = (mset ν 70 (q + 1) (len + 4)) 70 := fun v w => by rw [mset_cell (by decide), mset_cell (by decide)]
        have gi : ∀ i, q + 1 ≤ i → i < H → (mset ν 70 (q + 1) (len + 4)) 70 (i + 1) = μ 70 i := fun i hi hi2 => by
          rw [mset_ne (Or.inr (by omega)), hf, h2 (i + 1) (by omega) (by omega)]
          rfl
        have gl : ∀ i, i < q + 1 → (mset ν 70 (q + 1) (len + 4)) 70 i = μ 70 i := fun i hi => by
          rw [mset_ne (Or.inr (by omega)), hf, h1 i hi]
        have hge : ∀ i, i < q + 1 → len + 4 ≤ μ 70 i := fun i hi => by
          by_cases e : i = q
          · rw [e]; exact h4
          · have := hsrt i q (by omega) (by omega); omega
        refine g_vret hX hR dX3_add_86 ⟨rfl, ⟨H + 1, by rw [mset_ne (Or.inr (by decide)), mset_same]; rfl, by omega, by simp [hLH], ?_, fun i hi => ?_, fun i j h5 h6 => ?_, ?_⟩, ?_⟩
        · rw [g70, show H + 1 = (q + 1) + ((H - (q + 1)) + 1) by omega, sfx_split, sfx_cg (f' := μ 70) (q + 1) 0 (fun j _ h => gl j (by omega))]
          show (_ ++ (_ :: sfx _ (0 + (q + 1) + 1) (H - (q + 1)))).Perm _
          rw [show 0 + (q + 1) = q + 1 by omega, mset_same, sfx_shift (μ 70) _ (H - (q + 1)) (q + 1) (fun j h5 h6 => gi j h5 (by omega))]
          refine List.perm_middle.trans (List.Perm.cons _ ?_)
          have hs := sfx_split (μ 70) (q + 1) 0 (H - (q + 1))
          rw [show q + 1 + (H - (q + 1)) = H by omega, show 0 + (q + 1) = q + 1 by omega] at hs
          rw [← hs]
          exact hperm
        · rw [g70]
          rcases Nat.lt_trichotomy i (q + 1) with e | e | e
          · rw [gl i e]; exact hsz i (by omega)
          · rw [e, mset_same]; omega
          · obtain ⟨i', rfl⟩ : ∃ i', i = i' + 1 := ⟨i - 1, by omega⟩
            rw [gi i' (by omega) (by omega)]; exact hsz i' (by omega)
        · rw [g70]
          rcases Nat.lt_trichotomy i (q + 1) with e | e | e
          · rw [gl i e]
            rcases Nat.lt_trichotomy j (q + 1) with e2 | e2 | e2
            · rw [gl j e2]; exact hsrt i j h5 (by omega)
            · rw [e2, mset_same]; exact hge i e
            · obtain ⟨j', rfl⟩ : ∃ j', j = j' + 1 := ⟨j - 1, by omega⟩
              rw [gi j' (by omega) (by omega)]; exact hsrt i j' (by omega) (by omega)
          · obtain ⟨j', rfl⟩ : ∃ j', j = j' + 1 := ⟨j - 1, by omega⟩
            rw [e, mset_same, gi j' (by omega) (by omega)]
            have := h3 j' (by omega) (by omega); omega
          · obtain ⟨i', rfl⟩ : ∃ i', i = i' + 1 := ⟨i - 1, by omega⟩
            obtain ⟨j', rfl⟩ : ∃ j', j = j' + 1 := ⟨j - 1, by omega⟩
            rw [gi i' (by omega) (by omega), gi j' (by omega) (by omega)]; exact hsrt i' j' (by omega) (by omega)
        · rw [mset_same]
          show lsum L + (len + 4) = len + 4 + lsum L
          omega
        · intro k a1 a2 a3
          rw [mset_cell (fun q => a1 q.symm), mset_cell (fun q => a1 q.symm), mset_cell (fun q => a2 q.symm)]
          exact hk k a1 a2 a3
      · refine g_aload_n hX dX3_add_39 rfl ?_
        refine gf_X3_9 hX dX3_add_40 ?_
        refine g_iload_n hX dX3_add_43 rfl ?_
        refine g_aload_n hX dX3_add_44 rfl ?_
        refine gf_X3_9 hX dX3_add_45 ?_
        refine g_iload_n hX dX3_add_48 rfl ?_
        refine g_iconst hX dX3_add_49 ?_
        refine g_isub hX dX3_add_50 ?_
        rw [show ((q + 1 : Nat) : Int) - 1 = (q : Int) by omega]
        refine g_ialdN hX dX3_add_51 (N := 12) rfl rfl (by omega) (by decide) ?_
        rw [eq]
        refine g_iastN (i := (q + 1)) hX dX3_add_52 (N := 12) rfl (by omega) (by omega) (by decide) ?_
        refine st_iinc_4_2 hX dX3_add_53 (by first | exact ck_i _ | exact ck_r _ _ | exact ck_n | exact ck_0) ?_
        refine g_goto (tgt := 23) hX dX3_add_56 (by decide) ?_
        rw [show ((q + 1 : Nat) : Int) + (-1) = (q : Int) by omega]
        refine ih _ _ (by omega) rfl (by rw [mset_cell (by decide)]; exact h69) (fun k a1 a2 a3 => by rw [mset_cell (fun q => a2 q.symm)]; exact hk k a1 a2 a3) (fun i hi => ?_) (fun i h5 h6 => ?_) (fun i h5 h6 => ?_)
        · rw [mset_ne (Or.inr (by omega)), hf]; exact h1 i (by omega)
        · by_cases e : i = q + 1
          · rw [e, mset_same]; rfl
          · rw [mset_ne (Or.inr e), hf]; exact h2 i (by omega) h6
        · by_cases e : i = q
          · rw [e]; omega
          · exact h3 i (by omega) h6
  refine g_aload_n hX dX3_add_0 rfl ?_
  refine gf_X3_18 hX dX3_add_1 ?_
  refine st_istore_n_4_2 hX dX3_add_4 (by first | exact ck_i _ | exact ck_r _ _ | exact ck_n | exact ck_0) ?_
  refine g_iload_n hX dX3_add_5 rfl ?_
  refine g_if_lt (tgt := 18) hX dX3_add_6 (by decide) ⟨by omega, by omega⟩ (fun hc => absurd hc (by omega)) (fun _ => ?_)
  refine g_iload_n hX dX3_add_9 rfl ?_
  refine g_aload_n hX dX3_add_10 rfl ?_
  refine gf_X3_9 hX dX3_add_11 ?_
  refine g_alen hX dX3_add_14 (N := 12) (Or.inl ⟨rfl, by decide⟩) ?_
  refine g_icmp_lt (tgt := 19) hX dX3_add_15 (by decide) ⟨by omega, by omega⟩ ⟨by omega, by omega⟩ (fun _ => ?_) (fun hc => absurd hc (by omega))
  refine g_iload_n hX dX3_add_19 rfl ?_
  refine g_iconst hX dX3_add_20 ?_
  refine g_iadd hX dX3_add_21 ?_
  refine st_istore_n_4_3 hX dX3_add_22 (by first | exact ck_i _ | exact ck_r _ _ | exact ck_n | exact ck_0) ?_
  rw [hH]
  exact loop H (μ 70) μ (Nat.le_refl H) rfl rfl hK (fun i _ => rfl) (fun i h1 h2 => by omega) (fun i h1 h2 => by omega)
