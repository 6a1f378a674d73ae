/-! the reference's search -/
def LvS (d t e s0 : Nat) (Z W : Nat → List Int) (ν : Mem) : Prop := ν 98 d = (t : Int) ∧ ν 99 d = ((t + e : Nat) : Int) ∧ ν 101 d = (s0 : Int) ∧ Tk (fun j => ν 100 (6 * d + j)) t e Z W
theorem LvS.fm {d t e s0 : Nat} {Z W : Nat → List Int} {ν ν' : Mem} (h : LvS d t e s0 Z W ν) (hF : FM (d + 1) ν ν') (he : t + e ≤ 6) : LvS d t e s0 Z W ν' := by
  obtain ⟨h1, h2, h3, h4⟩ := h
  exact ⟨by rw [hF.2.2.1 d (by omega)]; exact h1, by rw [(hF.2.1 d (by omega)).1]; exact h2, by rw [(hF.2.1 d (by omega)).2.1]; exact h3, Tk_cg e Z W (fun j hj => hF.2.2.2 (6 * d + j) (by omega)) h4⟩
theorem LvS.k {d t e s0 : Nat} {Z W : Nat → List Int} {ν ν' : Mem} (h : LvS d t e s0 Z W ν) (h8 : ν' 98 d = ν 98 d) (h9 : ν' 99 = ν 99) (h10 : ν' 100 = ν 100) (h11 : ν' 101 = ν 101) : LvS d t e s0 Z W ν' := by
  obtain ⟨h1, h2, h3, h4⟩ := h
  exact ⟨by rw [h8]; exact h1, by rw [h9]; exact h2, by rw [h11]; exact h3, by rw [h10]; exact h4⟩
theorem mv_back {W : Nat → List Int} {s i : Nat} {x : Int} {r : List Int} (hne : i ≠ s) (hW : W s = x :: r) : mvY (mvY W s i x r) i s x (W i) = W := by
  have e1 : mvY W s i x r s = r := by unfold mvY; rw [yup_ne (fun q => hne q.symm), yup_eq]
  show yup (yup (mvY W s i x r) i (W i)) s (x :: mvY W s i x r s) = W
  rw [mvY_back hne, e1, yup_yup, ← hW, yup_id]
def KM (μ ν : Mem) : Prop := ∀ k, k < 96 ∨ 102 < k → ν k = μ k
theorem KM.fm {d : Nat} {a b c : Mem} (h : KM a b) (hF : FM d b c) : KM a c := fun k hk => (hF.1 k hk).trans (h k hk)
set_option maxHeartbeats 4000000 in
theorem c_does {lnch : Launch} {V : VX} (hI : InjV V) {μ : Mem} {o : Nat → Int} {n lm : Nat} {Y : Nat → List Int} (hD : DgM o n μ Y) (hO : OrdM o n μ) (hY : OY n 0 Y) (hlm : lm ≤ 18) : Ct lnch yX7_does cX7_does 6 (some .boolean) 3 V [vr V 76, vi (lm : Int)] μ (pI (fun z μ' => ((z = 1 ∧ Dg n lm 0 Y) ∨ (z = 0 ∧ ¬ Dg n lm 0 Y)) ∧ KM μ μ')) := by
  refine Ct_of (by decide) hI (Nat.le_of_ble_eq_true rfl) (fun E hE hX hR => ?_)
  have hX : OkX V E RX7 cX7_does 6 3 := hX
  show G V E μ 0 [some (vr V 76), some (vi (lm : Int)), none, none, none, none] []
  have hn6 := hY.1
  have scan : ∀ (ν : Mem) (d s0 : Nat) (W : Nat → List Int) (z3 : Option Value) (z4 : Int), d ≤ 18 → DgM o n ν W → ν 101 d = (s0 : Int) → s0 < 5 → ∀ (e i : Nat), i + e = 5 →
      (∀ i' : Nat, i ≤ i' → i' ≤ 5 → (∀ j, i ≤ j → j < i' → j = s0 ∨ ¬ (W j).length < 4) → (i' < 5 → i' ≠ s0 ∧ (W i').length < 4) → G V E ν 102 [some (vr V 76), some (vi (lm : Int)), some (vi (d : Int)), z3, some (vi z4), some (vi (i' : Int))] []) →
      G V E ν 68 [some (vr V 76), some (vi (lm : Int)), some (vi (d : Int)), z3, some (vi z4), some (vi (i : Int))] [] := by
    intro ν d s0 W z3 z4 hd hDν h101 hs0 e
    induction e with
    | zero =>
      intro i hi hk
      refine g_iload hX dX7_does_68 rfl ?_
      refine g_iconst hX dX7_does_70 ?_
      refine g_icmp_ge (tgt := 102) hX dX7_does_71 (by decide) ⟨by omega, by omega⟩ ⟨by omega, by omega⟩ (fun _ => ?_) (fun hc => absurd hc (by omega))
      exact hk i (Nat.le_refl i) (by omega) (fun j h1 h2 => absurd h1 (by omega)) (fun h => absurd h (by omega))
    | succ e ih =>
      intro i hi hk
      obtain ⟨g1, g2, g3, g4⟩ := hDν i (by omega)
      have next : (i = s0 ∨ ¬ (W i).length < 4) → G V E ν 96 [some (vr V 76), some (vi (lm : Int)), some (vi (d : Int)), z3, some (vi z4), some (vi (i : Int))] [] := fun hq => by
        refine st_iinc_6_5 hX dX7_does_96 (by first | exact ck_i _ | exact ck_r _ _ | exact ck_n | exact ck_0) ?_
        refine g_goto (tgt := 68) hX dX7_does_99 (by decide) ?_
        refine ih (i + 1) (by omega) (fun i' h1 h2 h3 h4 => hk i' (by omega) h2 (fun j h5 h6 => ?_) h4)
        by_cases e1 : j = i
        · rw [e1]; exact hq
        · exact h3 j (by omega) h6
      refine g_iload hX dX7_does_68 rfl ?_
      refine g_iconst hX dX7_does_70 ?_
      refine g_icmp_ge (tgt := 102) hX dX7_does_71 (by decide) ⟨by omega, by omega⟩ ⟨by omega, by omega⟩ (fun hc => absurd hc (by omega)) (fun _ => ?_)
      refine g_iload hX dX7_does_74 rfl ?_
      refine g_aload_n hX dX7_does_76 rfl ?_
      refine gf_X7_87 hX dX7_does_77 ?_
      refine g_iload_n hX dX7_does_80 rfl ?_
      refine g_ialdN (i := d) hX dX7_does_81 (N := 32) rfl (by omega) (by omega) (by decide) ?_
      rw [h101]
      refine g_icmp_eq (tgt := 96) hX dX7_does_82 (by decide) ⟨by omega, by omega⟩ ⟨by omega, by omega⟩ (fun h5 => ?_) (fun h5 => ?_)
      · exact next (Or.inl (by omega))
      refine g_aload_n hX dX7_does_85 rfl ?_
      refine gf_X7_72 hX dX7_does_86 ?_
      refine g_iload hX dX7_does_89 rfl ?_
      refine g_ialdN (i := i) hX dX7_does_91 (N := 5) rfl (by omega) (by omega) (by decide) ?_
      refine g_iconst hX dX7_does_92 ?_
      rw [g2]
      refine g_icmp_ne (tgt := 102) hX dX7_does_93 (by decide) ⟨by omega, by omega⟩ ⟨by omega, by omega⟩ (fun h6 => ?_) (fun h6 => ?_)
      · exact hk i (Nat.le_refl i) (by omega) (fun j h1 h2 => absurd h1 (by omega)) (fun _ => ⟨by omega, by omega⟩)
      · exact next (Or.inr (by omega))
  have search : ∀ (k d : Nat) (ν : Mem) (t : Nat) (Z : Nat → List Int) (z4 z5 : Option Value), d + k = lm → KM μ ν → ν 98 d = (t : Int) → DgM o n ν Z → OY n t Z → (Dg n k t Z → Dg n lm 0 Y) →
      (∀ (ν' : Mem) (z3 z4 z5 : Option Value), ¬ Dg n k t Z → FM d ν ν' → DgM o n ν' Z → G V E ν' 118 [some (vr V 76), some (vi (lm : Int)), some (vi (d : Int)), z3, z4, z5] []) →
      G V E ν 15 [some (vr V 76), some (vi (lm : Int)), some (vi (d : Int)), some (vi 1), z4, z5] [] := by
    intro k
    induction k using Nat.strongRecOn with
    | ind k ih =>
    intro d ν t Z z4 z5 hdk hK h98 hDν hOZ hyes hno
    have hOν : OrdM o n ν := hO.cg (hK 76 (by omega)) (hK 95 (by omega))
    refine g_iconst hX dX7_does_15 ?_
    refine st_istore_6_4 hX dX7_does_16 (by first | exact ck_i _ | exact ck_r _ _ | exact ck_n | exact ck_0) ?_
    refine g_iload_n hX dX7_does_18 rfl ?_
    refine g_if_eq (tgt := 58) hX dX7_does_19 (by decide) ⟨by omega, by omega⟩ (fun hc => absurd hc (by omega)) (fun _ => ?_)
    refine g_aload_n hX dX7_does_22 rfl ?_
    refine g_iload_n hX dX7_does_23 rfl ?_
    refine g_v1I hX lk_X7_166 dX7_does_24 (c0 := 7) ok76 ⟨_, rfl, rfl⟩ (c_takes hI hDν hOν hOZ (by omega) h98) (by first | decide | omega) (by decide) rfl (Nat.le_of_ble_eq_true rfl) (fun z μ' hp => ?_)
    obtain ⟨e, W, hF, hDW, hOW, h99, hT, hiff, hz⟩ := hp
    rcases hz with ⟨rfl, hen⟩ | ⟨hqn, s0, x, r, hs0, hW, hmr, rfl, hab, h101⟩
    · refine st_istore_6_5 hX dX7_does_27 (by first | exact ck_i _ | exact ck_r _ _ | exact ck_n | exact ck_0) ?_
      refine g_iload hX dX7_does_29 rfl ?_
      refine g_if_ne (tgt := 36) hX dX7_does_31 (by decide) ⟨by omega, by omega⟩ (fun hc => absurd hc (by omega)) (fun _ => ?_)
      refine g_iconst hX dX7_does_34 ?_
      refine g_zret hX hR dX7_does_35 (Or.inr rfl) ⟨_, rfl, Or.inl ⟨rfl, hyes ((hiff k).mpr (by rw [hen]; exact Dg_done))⟩, hK.fm hF⟩
    have hmW : ((t + e : Nat) : Int) ∈ W s0 := by rw [hW]; exact List.mem_cons_of_mem _ hmr
    have hal := abv_lt _ hmW
    have hW4 := (hDW s0 hs0).1
    have hrl : r.length < 4 := by rw [hW, List.length_cons] at hW4; exact hW4
    have exit : ∀ (ξ : Mem) (z3 z4 z5 : Option Value), FM d ν ξ → DgM o n ξ W → LvS d t e s0 Z W ξ → ¬ Dg n k t Z → G V E ξ 113 [some (vr V 76), some (vi (lm : Int)), some (vi (d : Int)), z3, z4, z5] [] := fun ξ z3 z4 z5 hFξ hDξ hL hnot => by
      refine g_aload_n hX dX7_does_113 rfl ?_
      refine g_iload_n hX dX7_does_114 rfl ?_
      refine g_v1V hX lk_X7_169 dX7_does_115 (c0 := 7) ok76 ⟨_, rfl, rfl⟩ (c_gives hI hDξ (hFξ.ord hOν) hL.2.2.2 (by omega) hL.1 hL.2.1 (by omega)) (by first | decide | omega) (by decide) rfl (Nat.le_of_ble_eq_true rfl) (fun μ'' hp => ?_)
      exact hno μ'' z3 z4 z5 hnot (hFξ.tr hp.1.fm) hp.2
    have hL1 : LvS d t e s0 Z W (mset μ' 102 d (-1)) := ⟨by rw [mset_cell (by decide), hF.2.2.1 d (by omega)]; exact h98, by rw [mset_cell (by decide)]; exact h99, by rw [mset_cell (by decide)]; exact h101, Tk_cg e Z W (fun j _ => by rw [mset_cell (by decide)]) hT⟩
    have hF1 : FM d ν (mset μ' 102 d (-1)) := hF.st (by omega)
    have hD1 : DgM o n (mset μ' 102 d (-1)) W := hDW.cg (mset_cell (by decide)) (mset_cell (by decide))
    have inner : abv ((t + e : Nat) : Int) (W s0) ≤ k → ∀ (f i : Nat) (ξ : Mem) (z3 z5 : Option Value), 5 ≤ i + f → i ≤ 5 → FM d ν ξ → DgM o n ξ W → LvS d t e s0 Z W ξ → ξ 102 d = (i : Int) - 1 → (∀ j, j < i → j ≠ s0 → (W j).length < 4 → ¬ Dg n (k - 1) (t + e) (mvY W s0 j x r)) → G V E ξ 58 [some (vr V 76), some (vi (lm : Int)), some (vi (d : Int)), z3, some (vi 0), z5] [] := by
      intro hak f
      induction f with
      | zero =>
        intro i ξ z3 z5 hi hi5 hFξ hDξ hL h102 hall
        refine g_aload_n hX dX7_does_58 rfl ?_
        refine gf_X7_90 hX dX7_does_59 ?_
        refine g_iload_n hX dX7_does_62 rfl ?_
        refine g_ialdN (i := d) hX dX7_does_63 (N := 32) rfl (by omega) (by omega) (by decide) ?_
        rw [h102]
        refine g_iconst hX dX7_does_64 ?_
        refine g_iadd hX dX7_does_65 ?_
        rw [show (i : Int) - 1 + 1 = (i : Int) by omega]
        refine st_istore_6_5 hX dX7_does_66 (by first | exact ck_i _ | exact ck_r _ _ | exact ck_n | exact ck_0) ?_
        refine scan ξ d s0 W z3 0 (by omega) hDξ hL.2.2.1 hs0 (5 - i) i (by omega) (fun i' h1 h2 h3 h4 => ?_)
        obtain rfl : i' = 5 := by omega
        refine g_iload hX dX7_does_102 rfl ?_
        refine g_if_ne (tgt := 113) hX dX7_does_104 (by decide) ⟨by omega, by omega⟩ (fun hc => absurd hc (by omega)) (fun _ => ?_)
        refine g_iload hX dX7_does_107 rfl ?_
        refine g_iconst hX dX7_does_109 ?_
        refine g_icmp_ne (tgt := 146) hX dX7_does_110 (by decide) ⟨by omega, by omega⟩ ⟨by omega, by omega⟩ (fun hc => absurd hc (by omega)) (fun _ => ?_)
        refine exit ξ _ _ _ hFξ hDξ hL (fun hg => ?_)
        obtain ⟨k', d', hk', hd', hne, hl, hg'⟩ := (Dg_dig hOW hqn hs0 hW hmr).mp ((hiff k).mp hg)
        rw [show k' = k - 1 by omega] at hg'
        exact hall d' (by omega) hne hl hg'
      | succ f ihf =>
        intro i ξ z3 z5 hi hi5 hFξ hDξ hL h102 hall
        refine g_aload_n hX dX7_does_58 rfl ?_
        refine gf_X7_90 hX dX7_does_59 ?_
        refine g_iload_n hX dX7_does_62 rfl ?_
        refine g_ialdN (i := d) hX dX7_does_63 (N := 32) rfl (by omega) (by omega) (by decide) ?_
        rw [h102]
        refine g_iconst hX dX7_does_64 ?_
        refine g_iadd hX dX7_does_65 ?_
        rw [show (i : Int) - 1 + 1 = (i : Int) by omega]
        refine st_istore_6_5 hX dX7_does_66 (by first | exact ck_i _ | exact ck_r _ _ | exact ck_n | exact ck_0) ?_
        refine scan ξ d s0 W z3 0 (by omega) hDξ hL.2.2.1 hs0 (5 - i) i (by omega) (fun i' h1 h2 h3 h4 => ?_)
        refine g_iload hX dX7_does_102 rfl ?_
        refine g_if_ne (tgt := 113) hX dX7_does_104 (by decide) ⟨by omega, by omega⟩ (fun hc => absurd hc (by omega)) (fun _ => ?_)
        refine g_iload hX dX7_does_107 rfl ?_
        refine g_iconst hX dX7_does_109 ?_
        by_cases hi' : i' = 5
        · subst hi'
          refine g_icmp_ne (tgt := 146) hX dX7_does_110 (by decide) ⟨by omega, by omega⟩ ⟨by omega, by omega⟩ (fun hc => absurd hc (by omega)) (fun _ => ?_)
          refine exit ξ _ _ _ hFξ hDξ hL (fun hg => ?_)
          obtain ⟨k', d', hk', hd', hne, hl, hg'⟩ := (Dg_dig hOW hqn hs0 hW hmr).mp ((hiff k).mp hg)
          rw [show k' = k - 1 by omega] at hg'
          by_cases hdi : d' < i
          · exact hall d' hdi hne hl hg'
          · rcases h3 d' (by omega) hd' with q | q
            · exact hne q
            · exact q hl
        · refine g_icmp_ne (tgt := 146) hX dX7_does_110 (by decide) ⟨by omega, by omega⟩ ⟨by omega, by omega⟩ (fun _ => ?_) (fun hc => absurd hc (by omega))
          obtain ⟨hi5', hne, hl⟩ : i' < 5 ∧ i' ≠ s0 ∧ (W i').length < 4 := ⟨by omega, (h4 (by omega)).1, (h4 (by omega)).2⟩
          have hD2 : DgM o n (mset ξ 102 d (i' : Int)) W := hDξ.cg (mset_cell (by decide)) (mset_cell (by decide))
          have hL2 : LvS d t e s0 Z W (mset ξ 102 d (i' : Int)) := hL.k (by rw [mset_cell (by decide)]) (mset_cell (by decide)) (mset_cell (by decide)) (mset_cell (by decide))
          have hF2 : FM d ν (mset ξ 102 d (i' : Int)) := hFξ.st (by omega)
          refine g_aload_n hX dX7_does_146 rfl ?_
          refine gf_X7_90 hX dX7_does_147 ?_
          refine g_iload_n hX dX7_does_150 rfl ?_
          refine g_iload hX dX7_does_151 rfl ?_
          refine g_iastN (i := d) hX dX7_does_153 (N := 32) rfl (by omega) (by omega) (by decide) ?_
          refine g_aload_n hX dX7_does_154 rfl ?_
          refine g_aload_n hX dX7_does_155 rfl ?_
          refine gf_X7_87 hX dX7_does_156 ?_
          refine g_iload_n hX dX7_does_159 rfl ?_
          refine g_ialdN (i := d) hX dX7_does_160 (N := 32) rfl (by omega) (by omega) (by decide) ?_
          rw [hL2.2.2.1]
          refine g_iload hX dX7_does_161 rfl ?_
          refine g_v2V hX lk_X7_172 dX7_does_163 (c0 := 7) ok76 ⟨_, rfl, rfl⟩ (c_carries hI hD2 hs0 hi5' hne hW hl) (by first | decide | omega) (by decide) rfl (Nat.le_of_ble_eq_true rfl) (fun ξ2 hp => ?_)
          obtain ⟨hk2, hD3⟩ := hp
          have hL3 : LvS d t e s0 Z W ξ2 := hL2.k (by rw [hk2 98 (by decide) (by decide)]) (hk2 99 (by decide) (by decide)) (hk2 100 (by decide) (by decide)) (hk2 101 (by decide) (by decide))
          have hF3 : FM d ν ξ2 := hF2.tr hk2.fm
          refine g_aload_n hX dX7_does_166 rfl ?_
          refine gf_X7_78 hX dX7_does_167 ?_
          refine g_iload_n hX dX7_does_170 rfl ?_
          refine g_iconst hX dX7_does_171 ?_
          refine g_iadd hX dX7_does_172 ?_
          refine g_aload_n hX dX7_does_173 rfl ?_
          refine gf_X7_81 hX dX7_does_174 ?_
          refine g_iload_n hX dX7_does_177 rfl ?_
          refine g_ialdN (i := d) hX dX7_does_178 (N := 32) rfl (by omega) (by omega) (by decide) ?_
          rw [hL3.2.1]
          refine g_iastN (i := d + 1) hX dX7_does_179 (N := 32) rfl (by omega) (by omega) (by decide) ?_
          refine st_iinc_6_2 hX dX7_does_180 (by first | exact ck_i _ | exact ck_r _ _ | exact ck_n | exact ck_0) ?_
          refine g_iconst hX dX7_does_183 ?_
          refine st_istore_n_6_3 hX dX7_does_184 (by first | exact ck_i _ | exact ck_r _ _ | exact ck_n | exact ck_0) ?_
          refine g_goto (tgt := 11) hX dX7_does_185 (by decide) ?_
          refine g_iload_n hX dX7_does_11 rfl ?_
          refine g_if_lt (tgt := 188) hX dX7_does_12 (by decide) ⟨by omega, by omega⟩ (fun hc => absurd hc (by omega)) (fun _ => ?_)
          have hF4 : FM d ν (mset ξ2 98 (d + 1) ((t + e : Nat) : Int)) := hF3.st (by omega)
          have hL4 : LvS d t e s0 Z W (mset ξ2 98 (d + 1) ((t + e : Nat) : Int)) := hL3.k (mset_ne (Or.inr (by omega))) (mset_cell (by decide)) (mset_cell (by decide)) (mset_cell (by decide))
          have h102' : mset ξ2 98 (d + 1) ((t + e : Nat) : Int) 102 d = (i' : Int) := by rw [mset_cell (by decide), hk2 102 (by decide) (by decide), mset_same]
          refine ih (k - 1) (by omega) (d + 1) _ (t + e) (mvY W s0 i' x r) _ _ (by omega) (hK.fm hF4) mset_same (hD3.cg (mset_cell (by decide)) (mset_cell (by decide))) (hOW.move hs0 hi5' hne hW hl) (fun hg => hyes ((hiff k).mpr ?_)) (fun ν' y3 y4 y5 hnot hFn hDn => ?_)
          · have := Dg_move hqn hs0 hi5' hne hW hmr hl hg
            rw [show k - 1 + 1 = k by omega] at this
            exact this
          · have hL5 := hL4.fm hFn (by omega)
            have e101 : ν' 101 d = (s0 : Int) := hL5.2.2.1
            have e102 : ν' 102 d = (i' : Int) := by rw [(hFn.2.1 d (by omega)).2.2]; exact h102'
            have hne2 : s0 ≠ i' := fun q => hne q.symm
            have hlm2 : (mvY W s0 i' x r s0).length < 4 := by unfold mvY; rw [yup_ne hne2, yup_eq]; exact hrl
            refine st_iinc_6_2 hX dX7_does_118 (by first | exact ck_i _ | exact ck_r _ _ | exact ck_n | exact ck_0) ?_
            rw [show ((d + 1 : Nat) : Int) + -1 = (d : Int) by omega]
            refine g_iload_n hX dX7_does_121 rfl ?_
            refine g_if_lt (tgt := 141) hX dX7_does_122 (by decide) ⟨by omega, by omega⟩ (fun hc => absurd hc (by omega)) (fun _ => ?_)
            refine g_aload_n hX dX7_does_125 rfl ?_
            refine g_aload_n hX dX7_does_126 rfl ?_
            refine gf_X7_90 hX dX7_does_127 ?_
            refine g_iload_n hX dX7_does_130 rfl ?_
            refine g_ialdN (i := d) hX dX7_does_131 (N := 32) rfl (by omega) (by omega) (by decide) ?_
            rw [e102]
            refine g_aload_n hX dX7_does_132 rfl ?_
            refine gf_X7_87 hX dX7_does_133 ?_
            refine g_iload_n hX dX7_does_136 rfl ?_
            refine g_ialdN (i := d) hX dX7_does_137 (N := 32) rfl (by omega) (by omega) (by decide) ?_
            rw [e101]
            refine g_v2V hX lk_X7_172 dX7_does_138 (c0 := 7) ok76 ⟨_, rfl, rfl⟩ (c_carries hI hDn hi5' hs0 hne2 mvY_d hlm2) (by first | decide | omega) (by decide) rfl (Nat.le_of_ble_eq_true rfl) (fun ξ3 hp => ?_)
            obtain ⟨hk3, hD5⟩ := hp
            rw [mv_back hne hW] at hD5
            refine g_iconst hX dX7_does_141 ?_
            refine st_istore_n_6_3 hX dX7_does_142 (by first | exact ck_i _ | exact ck_r _ _ | exact ck_n | exact ck_0) ?_
            refine g_goto (tgt := 185) hX dX7_does_143 (by decide) ?_
            refine g_goto (tgt := 11) hX dX7_does_185 (by decide) ?_
            refine g_iload_n hX dX7_does_11 rfl ?_
            refine g_if_lt (tgt := 188) hX dX7_does_12 (by decide) ⟨by omega, by omega⟩ (fun hc => absurd hc (by omega)) (fun _ => ?_)
            refine g_iconst hX dX7_does_15 ?_
            refine st_istore_6_4 hX dX7_does_16 (by first | exact ck_i _ | exact ck_r _ _ | exact ck_n | exact ck_0) ?_
            refine g_iload_n hX dX7_does_18 rfl ?_
            refine g_if_eq (tgt := 58) hX dX7_does_19 (by decide) ⟨by omega, by omega⟩ (fun _ => ?_) (fun hc => absurd hc (by omega))
            refine ihf (i' + 1) ξ3 _ _ (by omega) (by omega) ((hF4.tr (hFn.lo (by omega))).tr hk3.fm) hD5 (hL5.k (by rw [hk3 98 (by decide) (by decide)]) (hk3 99 (by decide) (by decide)) (hk3 100 (by decide) (by decide)) (hk3 101 (by decide) (by decide))) (by rw [hk3 102 (by decide) (by decide), e102]; omega) (fun j hj hjne hjl => ?_)
            by_cases e1 : j = i'
            · rw [e1]; exact hnot
            · by_cases e2 : j < i
              · exact hall j e2 hjne hjl
              · rcases h3 j (by omega) (by omega) with q | q
                · exact absurd q hjne
                · exact absurd hjl q
    refine st_istore_6_5 hX dX7_does_27 (by first | exact ck_i _ | exact ck_r _ _ | exact ck_n | exact ck_0) ?_
    refine g_iload hX dX7_does_29 rfl ?_
    refine g_if_ne (tgt := 36) hX dX7_does_31 (by decide) ⟨by omega, by omega⟩ (fun _ => ?_) (fun hc => absurd hc (by omega))
    refine g_aload_n hX dX7_does_36 rfl ?_
    refine gf_X7_90 hX dX7_does_37 ?_
    refine g_iload_n hX dX7_does_40 rfl ?_
    refine g_iconst hX dX7_does_41 ?_
    refine g_iastN (i := d) hX dX7_does_42 (N := 32) rfl (by omega) (by omega) (by decide) ?_
    refine g_iload_n hX dX7_does_43 rfl ?_
    refine g_iload hX dX7_does_44 rfl ?_
    refine g_iadd hX dX7_does_46 ?_
    refine g_iload_n hX dX7_does_47 rfl ?_
    refine g_icmp_le (tgt := 55) hX dX7_does_48 (by decide) ⟨by omega, by omega⟩ ⟨by omega, by omega⟩ (fun h5 => ?_) (fun h5 => ?_)
    · refine g_iconst hX dX7_does_55 ?_
      refine st_istore_6_4 hX dX7_does_56 (by first | exact ck_i _ | exact ck_r _ _ | exact ck_n | exact ck_0) ?_
      exact inner (by omega) 5 0 _ _ _ (by omega) (by omega) hF1 hD1 hL1 (by rw [mset_same]; rfl) (fun j hj => absurd hj (by omega))
    · refine g_iconst hX dX7_does_51 ?_
      refine g_goto (tgt := 56) hX dX7_does_52 (by decide) ?_
      refine st_istore_6_4 hX dX7_does_56 (by first | exact ck_i _ | exact ck_r _ _ | exact ck_n | exact ck_0) ?_
      refine g_aload_n hX dX7_does_58 rfl ?_
      refine gf_X7_90 hX dX7_does_59 ?_
      refine g_iload_n hX dX7_does_62 rfl ?_
      refine g_ialdN (i := d) hX dX7_does_63 (N := 32) rfl (by omega) (by omega) (by decide) ?_
      rw [mset_same]
      refine g_iconst hX dX7_does_64 ?_
      refine g_iadd hX dX7_does_65 ?_
      rw [show (-1 : Int) + 1 = ((0 : Nat) : Int) from rfl]
      refine st_istore_6_5 hX dX7_does_66 (by first | exact ck_i _ | exact ck_r _ _ | exact ck_n | exact ck_0) ?_
      refine scan _ d s0 W _ 1 (by omega) hD1 hL1.2.2.1 hs0 5 0 (by omega) (fun i' h1 h2 h3 h4 => ?_)
      refine g_iload hX dX7_does_102 rfl ?_
      refine g_if_ne (tgt := 113) hX dX7_does_104 (by decide) ⟨by omega, by omega⟩ (fun _ => ?_) (fun hc => absurd hc (by omega))
      refine exit _ _ _ _ hF1 hD1 hL1 (fun hg => ?_)
      obtain ⟨g, hg'⟩ := (hiff k).mp hg
      have := Sol_abv g k _ _ s0 hg' hOW hqn hs0 hmW
      omega
  refine g_iconst hX dX7_does_0 ?_
  refine st_istore_n_6_2 hX dX7_does_1 (by first | exact ck_i _ | exact ck_r _ _ | exact ck_n | exact ck_0) ?_
  refine g_aload_n hX dX7_does_2 rfl ?_
  refine gf_X7_78 hX dX7_does_3 ?_
  refine g_iconst hX dX7_does_6 ?_
  refine g_iconst hX dX7_does_7 ?_
  refine g_iastN (i := 0) hX dX7_does_8 (N := 32) rfl (by omega) (by omega) (by decide) ?_
  refine g_iconst hX dX7_does_9 ?_
  refine st_istore_n_6_3 hX dX7_does_10 (by first | exact ck_i _ | exact ck_r _ _ | exact ck_n | exact ck_0) ?_
  refine g_iload_n hX dX7_does_11 rfl ?_
  refine g_if_lt (tgt := 188) hX dX7_does_12 (by decide) ⟨by omega, by omega⟩ (fun hc => absurd hc (by omega)) (fun _ => ?_)
  refine search lm 0 _ 0 Y _ _ (by omega) (fun k hk => mset_cell (by omega)) mset_same (hD.cg (mset_cell (by decide)) (mset_cell (by decide))) hY (fun h => h) (fun ν' z3 z4 z5 hnot hF _ => ?_)
  refine st_iinc_6_2 hX dX7_does_118 (by first | exact ck_i _ | exact ck_r _ _ | exact ck_n | exact ck_0) ?_
  refine g_iload_n hX dX7_does_121 rfl ?_
  refine g_if_lt (tgt := 141) hX dX7_does_122 (by decide) ⟨by omega, by omega⟩ (fun _ => ?_) (fun hc => absurd hc (by omega))
  refine g_iconst hX dX7_does_141 ?_
  refine st_istore_n_6_3 hX dX7_does_142 (by first | exact ck_i _ | exact ck_r _ _ | exact ck_n | exact ck_0) ?_
  refine g_goto (tgt := 185) hX dX7_does_143 (by decide) ?_
  refine g_goto (tgt := 11) hX dX7_does_185 (by decide) ?_
  refine g_iload_n hX dX7_does_11 rfl ?_
  refine g_if_lt (tgt := 188) hX dX7_does_12 (by decide) ⟨by omega, by omega⟩ (fun _ => ?_) (fun hc => absurd hc (by omega))
  refine g_iconst hX dX7_does_188 ?_
  refine g_zret hX hR dX7_does_189 (Or.inl rfl) ⟨_, rfl, Or.inr ⟨rfl, hnot⟩, fun k hk => by rw [hF.1 k hk, mset_cell (by omega)]⟩
