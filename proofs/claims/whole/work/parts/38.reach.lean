/-! the digger's search -/
def KD (t : Nat) (μ ν : Mem) : Prop := (∀ k, k < 53 ∨ 63 ≤ k → k ≠ 75 → ν k = μ k) ∧ ∀ j, j < t → ν 75 j = μ 75 j
theorem KD.rf {t : Nat} {μ : Mem} : KD t μ μ := ⟨fun _ _ _ => rfl, fun _ _ => rfl⟩
theorem KD.tr {t : Nat} {a b c : Mem} (h : KD t a b) (h' : KD t b c) : KD t a c := ⟨fun k h1 h2 => (h'.1 k h1 h2).trans (h.1 k h1 h2), fun j hj => (h'.2 j hj).trans (h.2 j hj)⟩
theorem KD.lo {t q : Nat} {a b : Mem} (h : KD q a b) (hq : t ≤ q) : KD t a b := ⟨h.1, fun j hj => h.2 j (by omega)⟩
theorem KD.st {t : Nat} {μ ν : Mem} {k j : Nat} {v : Int} (h : KD t μ ν) (hk : 53 ≤ k) (hk' : k ≤ 62) : KD t μ (mset ν k j v) := h.tr ⟨fun q h1 h2 => mset_cell (by omega), fun i hi => by rw [mset_cell (by omega)]⟩
def RePost (μ : Mem) (n k t : Nat) (Y : Nat → List Int) : Int → Mem → Prop := fun z μ' => KD t μ μ' ∧ ((z = 1 ∧ Dg n k t Y) ∨ (z = 0 ∧ ¬ Dg n k t Y ∧ DgX μ' Y))
def ReachC (lnch : Launch) (V : VX) (k : Nat) : Prop := ∀ (μ : Mem) (n t : Nat) (Y : Nat → List Int), DgX μ Y → OY n t Y → μ 72 3 = (n : Int) → Ct lnch yX1_reaches cX1_reaches 5 (some .boolean) (10 + 2 * k) V [vr V 72, vi (t : Int), vi (k : Int)] μ (pI (RePost μ n k t Y))
theorem yup_id {Y : Nat → List Int} {s : Nat} : yup Y s (Y s) = Y := by
  funext q
  by_cases e : q = s
  · rw [e, yup_eq]
  · rw [yup_ne e]
theorem yup_yup {Y : Nat → List Int} {s : Nat} {l l' : List Int} : yup (yup Y s l) s l' = yup Y s l' := by
  funext q
  by_cases e : q = s
  · rw [e, yup_eq, yup_eq]
  · rw [yup_ne e, yup_ne e, yup_ne e]
theorem mvY_d {Y : Nat → List Int} {s d : Nat} {x : Int} {r : List Int} : mvY Y s d x r d = x :: Y d := by unfold mvY; rw [yup_eq]
theorem mvY_back {Y : Nat → List Int} {s d : Nat} {x : Int} {r : List Int} (h : d ≠ s) : yup (mvY Y s d x r) d (Y d) = yup Y s r := by
  unfold mvY
  rw [yup_yup]
  have := yup_id (Y := yup Y s r) (s := d)
  rw [yup_ne h] at this
  exact this
def seenZ (Y : Nat → List Int) (s d : Nat) : Int := if ∃ a, a < d ∧ a ≠ s ∧ Y a = [] then 1 else 0
theorem seen_01 {Y : Nat → List Int} {s d : Nat} : seenZ Y s d = 0 ∨ seenZ Y s d = 1 := by unfold seenZ; split; exact Or.inr rfl; exact Or.inl rfl
theorem or_01 : (Int32.ofInt 0 ||| Int32.ofInt 0).toInt = 0 ∧ (Int32.ofInt 0 ||| Int32.ofInt 1).toInt = 1 ∧ (Int32.ofInt 1 ||| Int32.ofInt 0).toInt = 1 ∧ (Int32.ofInt 1 ||| Int32.ofInt 1).toInt = 1 := by decide +kernel
set_option maxHeartbeats 4000000 in
theorem c_digs {lnch : Launch} {V : VX} (hI : InjV V) {μ : Mem} {n k t s : Nat} {Y : Nat → List Int} {x : Int} {r : List Int} (ihR : ReachC lnch V k) (hk : k ≤ 20) (hD : DgX μ Y) (hO : OY n t Y) (hn : μ 72 3 = (n : Int)) (ht : t < n) (hs : s < 5) (hY : Y s = x :: r) (hm : (t : Int) ∈ r) : Ct lnch yX1_digs cX1_digs 8 (some .boolean) (11 + 2 * k) V [vr V 72, vi (t : Int), vi ((k : Int) + 1)] μ (pI (RePost μ n (k + 1) t Y)) := by
  refine Ct_of (by decide) hI (Nat.le_of_ble_eq_true rfl) (fun E hE hX hR => ?_)
  have hX : OkX V E RX1 cX1_digs 8 (11 + 2 * k) := hX
  show G V E μ 0 [some (vr V 72), some (vi (t : Int)), some (vi ((k : Int) + 1)), none, none, none, none, none] []
  have hn6 := hO.1
  obtain ⟨o1, o2, o3, o4⟩ := hD.off hs hY
  obtain ⟨h1, h2, h3, h4⟩ := hD s hs
  have hx := o4
  have loop : ∀ (e d : Nat) (ν : Mem) (z8 : Option Value), d + e = 5 → KD t μ ν → DgX ν (yup Y s r) → (∀ d', d' < d → d' ≠ s → (Y d').length < 4 → ¬ Dg n k t (mvY Y s d' x r)) → G V E ν 28 [some (vr V 72), some (vi (t : Int)), some (vi ((k : Int) + 1)), some (vr V (53 + s)), some (vi x), some (vi (seenZ Y s d)), some (vi (d : Int)), z8] [] := by
    intro e
    induction e with
    | zero =>
      intro d ν z8 hd hK hDν hno
      have hz := seen_01 (Y := Y) (s := s) (d := d)
      obtain ⟨g1, g2, g3, g4⟩ := hDν s hs
      rw [yup_eq] at g1 g2 g3 g4
      have hr4 : r.length < 4 := by rw [hY, List.length_cons] at h1; exact h1
      refine g_iload hX dX1_digs_28 rfl ?_
      refine g_iconst hX dX1_digs_30 ?_
      refine g_icmp_ge (tgt := 127) hX dX1_digs_31 (by decide) ⟨by omega, by omega⟩ ⟨by omega, by omega⟩ (fun _ => ?_) (fun hc => absurd hc (by omega))
      refine g_aload_n hX dX1_digs_127 rfl ?_
      refine g_iload hX dX1_digs_128 rfl ?_
      refine g_v1V hX lk_X1_43 dX1_digs_130 (c0 := 5) (by first | assumption | exact okd_part (by omega) | exact okd_bed (by omega) | exact okd_pile (by omega) | exact okd_dpile (by omega)) ⟨_, rfl, rfl⟩ (c_put hI (okd_dpile (by omega)) g2 hr4) (by first | decide | omega) (by decide) rfl (Nat.le_of_ble_eq_true rfl) (fun μ' hp => ?_)
      rw [hp]
      clear hp μ'
      refine g_iconst hX dX1_digs_133 ?_
      refine g_zret hX hR dX1_digs_134 (Or.inl rfl) ⟨_, rfl, (hK.st (by omega) (by omega)).st (by omega) (by omega), Or.inr ⟨rfl, fun hg => ?_, ?_⟩⟩
      · obtain ⟨k', d', hk', hd', hne, hl, hg'⟩ := (Dg_dig hO ht hs hY hm).mp hg
        rw [show k' = k by omega] at hg'
        exact hno d' (by omega) hne hl hg'
      · have h9 := hDν.put (s := s) (x := x) hs (by rw [yup_eq]; exact hr4) hx
        rw [yup_eq, yup_yup, ← hY, yup_id] at h9
        exact h9
    | succ e ih =>
      intro d ν z8 hd hK hDν hno
      have hz := seen_01 (Y := Y) (s := s) (d := d)
      have next : ∀ (ν : Mem), KD t μ ν → DgX ν (yup Y s r) → (d ≠ s → (Y d).length < 4 → ¬ Dg n k t (mvY Y s d x r)) → G V E ν 121 [some (vr V 72), some (vi (t : Int)), some (vi ((k : Int) + 1)), some (vr V (53 + s)), some (vi x), some (vi (seenZ Y s (d + 1))), some (vi (d : Int)), some (vr V (53 + d))] [] := fun ν hK hDν hnd => by
        have hz := seen_01 (Y := Y) (s := s) (d := d + 1)
        refine st_iinc_8_6 hX dX1_digs_121 (by first | exact ck_i _ | exact ck_r _ _ | exact ck_n | exact ck_0) ?_
        refine g_goto (tgt := 28) hX dX1_digs_124 (by decide) ?_
        refine fg_8_7 ?_
        refine ih (d + 1) ν _ (by omega) hK hDν (fun d' hd' hne hl => ?_)
        by_cases e : d' = d
        · rw [e] at hne hl ⊢; exact hnd hne hl
        · exact hno d' (by omega) hne hl
      refine g_iload hX dX1_digs_28 rfl ?_
      refine g_iconst hX dX1_digs_30 ?_
      refine g_icmp_ge (tgt := 127) hX dX1_digs_31 (by decide) ⟨by omega, by omega⟩ ⟨by omega, by omega⟩ (fun hc => absurd hc (by omega)) (fun _ => ?_)
      refine g_aload_n hX dX1_digs_34 rfl ?_
      refine g_iload hX dX1_digs_35 rfl ?_
      refine g_v1R hX lk_X1_29 dX1_digs_37 (c0 := 1) ok72 ⟨_, rfl, rfl⟩ (c_pileOf hI ⟨by omega, by omega⟩) (by first | decide | omega) (by decide) rfl (Nat.le_of_ble_eq_true rfl) (fun r μ' hp => ?_)
      obtain ⟨rfl, hm⟩ := hp
      rw [hm]
      clear hm μ'
      rw [if_pos (by omega), show ((d : Int)).toNat = d from rfl]
      show G V E ν 40 _ (vr V (53 + d) :: [])
      refine st_astore_8_7 hX dX1_digs_40 (by first | exact ck_i _ | exact ck_r _ _ | exact ck_n | exact ck_0) ?_
      refine g_aload hX dX1_digs_42 rfl ?_
      refine g_ifnull hX dX1_digs_44 ?_
      refine g_aload hX dX1_digs_47 rfl ?_
      refine g_aload_n hX dX1_digs_49 rfl ?_
      refine g_acmp_eq (tgt := 121) hX dX1_digs_50 (by decide) (by omega) (by omega) (fun a1 => ?_) (fun a1 => ?_)
      · have e : d = s := by omega
        have hs1 : seenZ Y s (d + 1) = seenZ Y s d := by
          unfold seenZ
          by_cases q : ∃ a, a < d ∧ a ≠ s ∧ Y a = []
          · obtain ⟨a, q1, q2, q3⟩ := q
            rw [if_pos ⟨a, by omega, q2, q3⟩, if_pos ⟨a, q1, q2, q3⟩]
          · rw [if_neg q, if_neg (fun ⟨a, q1, q2, q3⟩ => q ⟨a, by omega, q2, q3⟩)]
        have := next ν hK hDν (fun hne => absurd e hne)
        rw [hs1] at this
        exact this
      have hne : d ≠ s := fun h => a1 (by omega)
      obtain ⟨g1, g2, g3, g4⟩ := hDν d (by omega)
      rw [yup_ne hne] at g1 g2 g3 g4
      refine g_aload hX dX1_digs_53 rfl ?_
      refine g_v0I hX lk_X1_74 dX1_digs_55 (c0 := 5) (by first | assumption | exact okd_part (by omega) | exact okd_bed (by omega) | exact okd_pile (by omega) | exact okd_dpile (by omega)) ⟨_, rfl, rfl⟩ (c_hasRoom hI (okd_dpile (by omega)) g2 g1) (by first | decide | omega) (by decide) rfl (Nat.le_of_ble_eq_true rfl) (fun z μ' hp => ?_)
      obtain ⟨rfl, hm⟩ := hp
      rw [hm]
      clear hm μ'
      by_cases hl : (Y d).length < 4
      rotate_left
      · rw [if_neg hl]
        refine g_if_eq (tgt := 121) hX dX1_digs_58 (by decide) ⟨by omega, by omega⟩ (fun _ => ?_) (fun hc => absurd hc (by omega))
        have hs1 : seenZ Y s (d + 1) = seenZ Y s d := by
          unfold seenZ
          by_cases q : ∃ a, a < d ∧ a ≠ s ∧ Y a = []
          · obtain ⟨a, q1, q2, q3⟩ := q
            rw [if_pos ⟨a, by omega, q2, q3⟩, if_pos ⟨a, q1, q2, q3⟩]
          · rw [if_neg q, if_neg (fun ⟨a, q1, q2, q3⟩ => by
              by_cases e : a = d
              · rw [e] at q3; rw [q3] at hl; exact hl (by decide)
              · exact q ⟨a, by omega, q2, q3⟩)]
        have := next ν hK hDν (fun _ h => absurd h hl)
        rw [hs1] at this
        exact this
      rw [if_pos hl]
      refine g_if_eq (tgt := 121) hX dX1_digs_58 (by decide) ⟨by omega, by omega⟩ (fun hc => absurd hc (by omega)) (fun _ => ?_)
      refine g_aload hX dX1_digs_61 rfl ?_
      refine gf_X1_36 hX dX1_digs_63 (by first | assumption | exact okd_part (by omega) | exact okd_bed (by omega) | exact okd_pile (by omega) | exact okd_dpile (by omega)) ?_
      rw [g2]
      have go : G V E ν 95 [some (vr V 72), some (vi (t : Int)), some (vi ((k : Int) + 1)), some (vr V (53 + s)), some (vi x), some (vi (seenZ Y s (d + 1))), some (vi (d : Int)), some (vr V (53 + d))] [] := by
        have hDp := hDν.put (s := d) (x := x) (by omega) (by rw [yup_ne hne]; exact hl) hx
        rw [yup_ne hne] at hDp
        have hKp : KD t μ (mset (mset ν (53 + d + 5) (Y d).length x) (53 + d) 1 (((Y d).length : Int) + 1)) := (hK.st (by omega) (by omega)).st (by omega) (by omega)
        refine g_aload hX dX1_digs_95 rfl ?_
        refine g_iload hX dX1_digs_97 rfl ?_
        refine g_v1V hX lk_X1_43 dX1_digs_99 (c0 := 5) (by first | assumption | exact okd_part (by omega) | exact okd_bed (by omega) | exact okd_pile (by omega) | exact okd_dpile (by omega)) ⟨_, rfl, rfl⟩ (c_put hI (okd_dpile (by omega)) g2 hl) (by first | decide | omega) (by decide) rfl (Nat.le_of_ble_eq_true rfl) (fun μ' hp => ?_)
        rw [hp]
        clear hp μ'
        refine g_aload_n hX dX1_digs_102 rfl ?_
        refine g_iload_n hX dX1_digs_103 rfl ?_
        refine g_iload_n hX dX1_digs_104 rfl ?_
        refine g_iconst hX dX1_digs_105 ?_
        refine g_isub hX dX1_digs_106 ?_
        rw [show (k : Int) + 1 - 1 = (k : Int) by omega]
        refine g_v2I hX lk_X1_51 dX1_digs_107 (c0 := 1) ok72 ⟨_, rfl, rfl⟩ (hE.symm ▸ ihR _ n t (mvY Y s d x r) hDp (hO.move hs (by omega) hne hY hl) (by rw [hKp.1 72 (by omega) (by decide)]; exact hn)) (by first | decide | omega) (by decide) rfl (Nat.le_of_ble_eq_true rfl) (fun z μ' hp => ?_)
        obtain ⟨hp1, hp2⟩ := hp
        rcases hp2 with ⟨rfl, hg⟩ | ⟨rfl, hg, hDb⟩
        · refine g_if_eq (tgt := 115) hX dX1_digs_110 (by decide) ⟨by omega, by omega⟩ (fun hc => absurd hc (by omega)) (fun _ => ?_)
          refine g_iconst hX dX1_digs_113 ?_
          refine g_zret hX hR dX1_digs_114 (Or.inr rfl) ⟨_, rfl, hKp.tr hp1, Or.inl ⟨rfl, Dg_move ht hs (by omega) hne hY hm hl hg⟩⟩
        · refine g_if_eq (tgt := 115) hX dX1_digs_110 (by decide) ⟨by omega, by omega⟩ (fun _ => ?_) (fun hc => absurd hc (by omega))
          obtain ⟨b1, b2, b3, b4⟩ := hDb d (by omega)
          obtain ⟨c1, c2, c3, c4⟩ := hDb.off (s := d) (by omega) mvY_d
          rw [mvY_back hne] at c1
          refine g_aload hX dX1_digs_115 rfl ?_
          refine g_v0I hX lk_X1_71 dX1_digs_117 (c0 := 5) (by first | assumption | exact okd_part (by omega) | exact okd_bed (by omega) | exact okd_pile (by omega) | exact okd_dpile (by omega)) ⟨_, rfl, rfl⟩ (c_takeOff hI (okd_dpile (by omega)) b2 b1 c3) (by first | decide | omega) (by decide) rfl (Nat.le_of_ble_eq_true rfl) (fun z μ' hp => ?_)
          obtain ⟨rfl, hm⟩ := hp
          rw [hm]
          clear hm μ'
          refine g_pop hX dX1_digs_120 rfl ?_
          exact next _ ((hKp.tr hp1).st (by omega) (by omega)) c1 (fun _ _ => hg)
      refine g_if_ne (tgt := 77) hX dX1_digs_66 (by decide) ⟨by omega, by omega⟩ (fun a2 => ?_) (fun a2 => ?_)
      · have e0 : Y d ≠ [] := fun q => a2 (by rw [q]; rfl)
        have hs1 : seenZ Y s (d + 1) = seenZ Y s d := by
          unfold seenZ
          by_cases q : ∃ a, a < d ∧ a ≠ s ∧ Y a = []
          · obtain ⟨a, q1, q2, q3⟩ := q
            rw [if_pos ⟨a, by omega, q2, q3⟩, if_pos ⟨a, q1, q2, q3⟩]
          · rw [if_neg q, if_neg (fun ⟨a, q1, q2, q3⟩ => by
              by_cases e : a = d
              · rw [e] at q3; exact e0 q3
              · exact q ⟨a, by omega, q2, q3⟩)]
        rw [hs1] at go
        refine g_iload hX dX1_digs_77 rfl ?_
        refine g_aload hX dX1_digs_79 rfl ?_
        refine gf_X1_36 hX dX1_digs_81 (by first | assumption | exact okd_part (by omega) | exact okd_bed (by omega) | exact okd_pile (by omega) | exact okd_dpile (by omega)) ?_
        rw [g2]
        refine g_if_ne (tgt := 91) hX dX1_digs_84 (by decide) ⟨by omega, by omega⟩ (fun _ => ?_) (fun hc => absurd hc (by omega))
        refine g_iconst hX dX1_digs_91 ?_
        refine g_ior hX dX1_digs_92 ?_
        rcases hz with h | h <;> rw [h] at go ⊢
        · rw [or_01.1]
          refine st_istore_8_5 hX dX1_digs_93 (by first | exact ck_i _ | exact ck_r _ _ | exact ck_n | exact ck_0) ?_
          exact go
        · rw [or_01.2.2.1]
          refine st_istore_8_5 hX dX1_digs_93 (by first | exact ck_i _ | exact ck_r _ _ | exact ck_n | exact ck_0) ?_
          exact go
      have e0 : Y d = [] := List.length_eq_zero_iff.mp (by omega)
      have hs1 : seenZ Y s (d + 1) = 1 := by unfold seenZ; rw [if_pos ⟨d, by omega, hne, e0⟩]
      refine g_iload hX dX1_digs_69 rfl ?_
      refine g_if_eq (tgt := 77) hX dX1_digs_71 (by decide) ⟨by omega, by omega⟩ (fun a3 => ?_) (fun a3 => ?_)
      · rw [hs1] at go
        rw [a3]
        refine g_iload hX dX1_digs_77 rfl ?_
        refine g_aload hX dX1_digs_79 rfl ?_
        refine gf_X1_36 hX dX1_digs_81 (by first | assumption | exact okd_part (by omega) | exact okd_bed (by omega) | exact okd_pile (by omega) | exact okd_dpile (by omega)) ?_
        rw [g2]
        refine g_if_ne (tgt := 91) hX dX1_digs_84 (by decide) ⟨by omega, by omega⟩ (fun hc => absurd hc (by omega)) (fun _ => ?_)
        refine g_iconst hX dX1_digs_87 ?_
        refine g_goto (tgt := 92) hX dX1_digs_88 (by decide) ?_
        refine g_ior hX dX1_digs_92 ?_
        rw [or_01.2.1]
        refine st_istore_8_5 hX dX1_digs_93 (by first | exact ck_i _ | exact ck_r _ _ | exact ck_n | exact ck_0) ?_
        exact go
      · have h1' : seenZ Y s d = 1 := by omega
        refine g_goto (tgt := 121) hX dX1_digs_74 (by decide) ?_
        have hnx := next ν hK hDν (fun _ _ hg => by
          unfold seenZ at h1'
          by_cases q : ∃ a, a < d ∧ a ≠ s ∧ Y a = []
          · obtain ⟨a, q1, q2, q3⟩ := q
            exact hno a q1 q2 (by rw [q3]; decide) (Dg_emp (by omega) (by omega) q2 hne q3 e0 hg)
          · rw [if_neg q] at h1'; exact absurd h1' (by decide))
        rw [hs1] at hnx
        rw [h1']
        exact hnx
  refine g_aload_n hX dX1_digs_0 rfl ?_
  refine g_aload_n hX dX1_digs_1 rfl ?_
  refine g_iload_n hX dX1_digs_2 rfl ?_
  refine g_v1I hX lk_X1_65 dX1_digs_3 (c0 := 1) ok72 ⟨_, rfl, rfl⟩ (c_pileWith hI hD ⟨by omega, by omega⟩) (by first | decide | omega) (by decide) rfl (Nat.le_of_ble_eq_true rfl) (fun z μ' hp => ?_)
  obtain ⟨hp1, hm'⟩ := hp
  rw [hm']
  clear hm' μ'
  have hms : (t : Int) ∈ Y s := by rw [hY]; exact List.mem_cons_of_mem _ hm
  obtain rfl : z = (s : Int) := by
    rcases hp1 with ⟨s', q1, q2, q3⟩ | ⟨-, q⟩
    · rw [q2, hO.uni (Nat.le_refl t) ht q1 hs q3 hms]
    · exact absurd hms (q s hs)
  refine g_v1R hX lk_X1_29 dX1_digs_6 (c0 := 1) ok72 ⟨_, rfl, rfl⟩ (c_pileOf hI ⟨by omega, by omega⟩) (by first | decide | omega) (by decide) rfl (Nat.le_of_ble_eq_true rfl) (fun r μ' hp => ?_)
  obtain ⟨rfl, hm⟩ := hp
  rw [hm]
  clear hm μ'
  rw [if_pos (by omega), show ((s : Int)).toNat = s from rfl]
  show G V E μ 9 _ (vr V (53 + s) :: [])
  refine st_astore_n_8_3 hX dX1_digs_9 (by first | exact ck_i _ | exact ck_r _ _ | exact ck_n | exact ck_0) ?_
  refine g_aload_n hX dX1_digs_10 rfl ?_
  refine g_ifnonnull (tgt := 16) hX dX1_digs_11 (by decide) ?_
  refine g_aload_n hX dX1_digs_16 rfl ?_
  refine g_v0I hX lk_X1_71 dX1_digs_17 (c0 := 5) (by first | assumption | exact okd_part (by omega) | exact okd_bed (by omega) | exact okd_pile (by omega) | exact okd_dpile (by omega)) ⟨_, rfl, rfl⟩ (c_takeOff hI (okd_dpile (by omega)) h2 h1 o3) (by first | decide | omega) (by decide) rfl (Nat.le_of_ble_eq_true rfl) (fun z μ' hp => ?_)
  obtain ⟨rfl, hm⟩ := hp
  rw [hm]
  clear hm μ'
  rw [o2]
  refine st_istore_8_4 hX dX1_digs_20 (by first | exact ck_i _ | exact ck_r _ _ | exact ck_n | exact ck_0) ?_
  refine g_iconst hX dX1_digs_22 ?_
  refine st_istore_8_5 hX dX1_digs_23 (by first | exact ck_i _ | exact ck_r _ _ | exact ck_n | exact ck_0) ?_
  refine g_iconst hX dX1_digs_25 ?_
  refine st_istore_8_6 hX dX1_digs_26 (by first | exact ck_i _ | exact ck_r _ _ | exact ck_n | exact ck_0) ?_
  have := loop 5 0 _ none (by omega) (KD.rf.st (by omega) (by omega)) o1 (fun d' hd' => absurd hd' (by omega))
  rw [show seenZ Y s 0 = 0 by unfold seenZ; rw [if_neg (fun ⟨a, q1, _⟩ => absurd q1 (by omega))]] at this
  exact this
