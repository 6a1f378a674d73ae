/-! the reference takes and gives -/
def FM (d : Nat) (μ ν : Mem) : Prop := (∀ k, k < 96 ∨ 102 < k → ν k = μ k) ∧ (∀ i, i < d → ν 99 i = μ 99 i ∧ ν 101 i = μ 101 i ∧ ν 102 i = μ 102 i) ∧ (∀ i, i ≤ d → ν 98 i = μ 98 i) ∧ ∀ i, i < 6 * d → ν 100 i = μ 100 i
theorem FM.rf {d : Nat} {μ : Mem} : FM d μ μ := ⟨fun _ _ => rfl, fun _ _ => ⟨rfl, rfl, rfl⟩, fun _ _ => rfl, fun _ _ => rfl⟩
theorem FM.tr {d : Nat} {a b c : Mem} (h : FM d a b) (h' : FM d b c) : FM d a c :=
  ⟨fun k hk => (h'.1 k hk).trans (h.1 k hk), fun i hi => ⟨((h'.2.1 i hi).1).trans (h.2.1 i hi).1, ((h'.2.1 i hi).2.1).trans (h.2.1 i hi).2.1, ((h'.2.1 i hi).2.2).trans (h.2.1 i hi).2.2⟩, fun i hi => (h'.2.2.1 i hi).trans (h.2.2.1 i hi), fun i hi => (h'.2.2.2 i hi).trans (h.2.2.2 i hi)⟩
theorem FM.lo {d e : Nat} {a b : Mem} (h : FM e a b) (hd : d ≤ e) : FM d a b :=
  ⟨h.1, fun i hi => h.2.1 i (by omega), fun i hi => h.2.2.1 i (by omega), fun i hi => h.2.2.2 i (by omega)⟩
theorem FM.st {d k j : Nat} {v : Int} {μ ν : Mem} (h : FM d μ ν) (hk : k = 96 ∨ k = 97 ∨ (k = 98 ∧ d < j) ∨ ((k = 99 ∨ k = 101 ∨ k = 102) ∧ d ≤ j) ∨ (k = 100 ∧ 6 * d ≤ j)) : FM d μ (mset ν k j v) :=
  h.tr ⟨fun q hq => mset_cell (by omega), fun i hi => ⟨mset_ne (by omega), mset_ne (by omega), mset_ne (by omega)⟩, fun i hi => mset_ne (by omega), fun i hi => mset_ne (by omega)⟩
theorem K967.fm {d : Nat} {μ ν : Mem} (h : K967 μ ν) : FM d μ ν :=
  ⟨fun k hk => h k (by omega) (by omega), fun i _ => by rw [h 99 (by decide) (by decide), h 101 (by decide) (by decide), h 102 (by decide) (by decide)]; exact ⟨rfl, rfl, rfl⟩, fun i _ => by rw [h 98 (by decide) (by decide)], fun i _ => by rw [h 100 (by decide) (by decide)]⟩
theorem FM.ord {d n : Nat} {o : Nat → Int} {μ ν : Mem} (h : FM d μ ν) (hO : OrdM o n μ) : OrdM o n ν := hO.cg (h.1 76 (by omega)) (h.1 95 (by omega))
theorem abv_0 {q : Int} {l : List Int} (hm : q ∈ l) (h : abv q l = 0) : ∃ r, l = q :: r := by
  match l, hm, h with
  | x :: r, hm, h =>
    unfold abv at h
    by_cases e : x = q
    · exact ⟨r, by rw [e]⟩
    · rw [if_neg e] at h; omega
theorem abv_s {q : Int} {l : List Int} (hm : q ∈ l) (h : abv q l ≠ 0) : ∃ x r, l = x :: r ∧ q ∈ r := by
  match l, hm, h with
  | x :: r, hm, h =>
    unfold abv at h
    by_cases e : x = q
    · rw [if_pos e] at h; omega
    · refine ⟨x, r, rfl, ?_⟩
      rcases List.mem_cons.mp hm with h1 | h1
      · exact absurd h1.symm e
      · exact h1
def TkP (o : Nat → Int) (n d t : Nat) (Y : Nat → List Int) (μ : Mem) : Int → Mem → Prop := fun z μ' => ∃ (e : Nat) (Z : Nat → List Int), FM d μ μ' ∧ DgM o n μ' Z ∧ OY n (t + e) Z ∧ μ' 99 d = ((t + e : Nat) : Int) ∧ Tk (fun j => μ' 100 (6 * d + j)) t e Y Z ∧ (∀ k, Dg n k t Y ↔ Dg n k (t + e) Z) ∧
  ((z = 0 ∧ t + e = n) ∨ (t + e < n ∧ ∃ (s : Nat) (x : Int) (r : List Int), s < 5 ∧ Z s = x :: r ∧ ((t + e : Nat) : Int) ∈ r ∧ z = (abv ((t + e : Nat) : Int) (Z s) : Int) ∧ 1 ≤ abv ((t + e : Nat) : Int) (Z s) ∧ μ' 101 d = (s : Int)))
set_option maxHeartbeats 4000000 in
theorem c_takes {lnch : Launch} {V : VX} (hI : InjV V) {μ : Mem} {o : Nat → Int} {n d t : Nat} {Y : Nat → List Int} (hD : DgM o n μ Y) (hO : OrdM o n μ) (hY : OY n t Y) (hd : d ≤ 20) (h98 : μ 98 d = (t : Int)) : Ct lnch yX7_takes cX7_takes 5 (some .int) 2 V [vr V 76, vi (d : Int)] μ (pI (TkP o n d t Y μ)) := by
  refine Ct_of (by decide) hI (Nat.le_of_ble_eq_true rfl) (fun E hE hX hR => ?_)
  have hX : OkX V E RX7 cX7_takes 5 2 := hX
  show G V E μ 0 [some (vr V 76), some (vi (d : Int)), none, none, none] []
  have hn6 := hY.1
  have loop : ∀ (f e : Nat) (ν : Mem) (Z : Nat → List Int) (z2 z3 : Option Value), t + e + f = n → ckV z2 → ckV z3 → FM d μ ν → DgM o n ν Z → OY n (t + e) Z → ν 99 d = ((t + e : Nat) : Int) → Tk (fun j => ν 100 (6 * d + j)) t e Y Z → (∀ k, Dg n k t Y ↔ Dg n k (t + e) Z) → G V E ν 12 [some (vr V 76), some (vi (d : Int)), z2, z3, none] [] := by
    intro f
    induction f with
    | zero =>
      intro e ν Z z2 z3 he hz2 hz3 hF hDν hOZ h99 hT hiff
      have hOν := hF.ord hO
      refine g_aload_n hX dX7_takes_12 rfl ?_
      refine gf_X7_81 hX dX7_takes_13 ?_
      refine g_iload_n hX dX7_takes_16 rfl ?_
      refine g_ialdN (i := d) hX dX7_takes_17 (N := 32) rfl (by omega) (by omega) (by decide) ?_
      rw [h99]
      refine g_aload_n hX dX7_takes_18 rfl ?_
      refine gf_X7_159 hX dX7_takes_19 ?_
      rw [hOν.2.1]
      refine g_icmp_ge (tgt := 131) hX dX7_takes_22 (by decide) ⟨by omega, by omega⟩ ⟨by omega, by omega⟩ (fun _ => ?_) (fun hc => absurd hc (by omega))
      refine g_iconst hX dX7_takes_131 ?_
      refine g_iret hX hR dX7_takes_132 ⟨_, rfl, e, Z, hF, hDν, hOZ, h99, hT, hiff, Or.inl ⟨rfl, by omega⟩⟩
    | succ f ih =>
      intro e ν Z z2 z3 he hz2 hz3 hF hDν hOZ h99 hT hiff
      have hOν := hF.ord hO
      have hqn : t + e < n := by omega
      obtain ⟨oo1, oo2, oo3⟩ := hOν.2.2.1 (t + e) hqn
      obtain ⟨s, hs, hm⟩ := hOZ.ex (Nat.le_refl _) hqn
      have hu : ∀ s', s' < 5 → ((t + e : Nat) : Int) ∈ Z s' → s' = s := fun s' hs' hm' => hOZ.uni (Nat.le_refl _) hqn hs' hs hm' hm
      obtain ⟨h1, h2, h3, h4⟩ := hDν s hs
      have hti : ∀ p, tnK o n p = ((t + e : Nat) : Int) ↔ p = o (t + e) := fun p => tnK_iff hOν.2.2.2 hn6 hqn
      refine g_aload_n hX dX7_takes_12 rfl ?_
      refine gf_X7_81 hX dX7_takes_13 ?_
      refine g_iload_n hX dX7_takes_16 rfl ?_
      refine g_ialdN (i := d) hX dX7_takes_17 (N := 32) rfl (by omega) (by omega) (by decide) ?_
      rw [h99]
      refine g_aload_n hX dX7_takes_18 rfl ?_
      refine gf_X7_159 hX dX7_takes_19 ?_
      rw [hOν.2.1]
      refine g_icmp_ge (tgt := 131) hX dX7_takes_22 (by decide) ⟨by omega, by omega⟩ ⟨by omega, by omega⟩ (fun hc => absurd hc (by omega)) (fun _ => ?_)
      refine g_aload_n hX dX7_takes_25 rfl ?_
      refine gf_X7_69 hX dX7_takes_26 ?_
      refine g_aload_n hX dX7_takes_29 rfl ?_
      refine gf_X7_81 hX dX7_takes_30 ?_
      refine g_iload_n hX dX7_takes_33 rfl ?_
      refine g_ialdN (i := d) hX dX7_takes_34 (N := 32) rfl (by omega) (by omega) (by decide) ?_
      rw [h99]
      refine g_ialdN (i := t + e) hX dX7_takes_35 (N := 6) rfl (by omega) (by omega) (by decide) ?_
      rw [oo1]
      refine st_istore_n_5_2 hX dX7_takes_36 (by first | exact ck_i _ | exact ck_r _ _ | exact ck_n | exact ck_0) ?_
      refine g_aload_n hX dX7_takes_37 rfl ?_
      refine g_iload_n hX dX7_takes_38 rfl ?_
      refine g_v1I hX lk_X7_162 dX7_takes_39 (c0 := 7) ok76 ⟨_, rfl, rfl⟩ (c_stOf hI hDν hOν hqn hs hm hu) (by first | decide | omega) (by decide) rfl (Nat.le_of_ble_eq_true rfl) (fun z μ' hp => ?_)
      obtain ⟨rfl, hm⟩ := hp
      rw [hm]
      clear hm μ'
      refine st_istore_n_5_3 hX dX7_takes_42 (by first | exact ck_i _ | exact ck_r _ _ | exact ck_n | exact ck_0) ?_
      refine g_iconst hX dX7_takes_43 ?_
      refine st_istore_5_4 hX dX7_takes_44 (by first | exact ck_i _ | exact ck_r _ _ | exact ck_n | exact ck_0) ?_
      -- how many lie above
      have above : ∀ (h' a : Nat), a + h' = (Z s).length → ((t + e : Nat) : Int) ∈ (stkL (fun k => ν 97 (4 * s + k)) h').map (tnK o n) → a + abv ((t + e : Nat) : Int) ((stkL (fun k => ν 97 (4 * s + k)) h').map (tnK o n)) = abv ((t + e : Nat) : Int) (Z s) →
          (G V E ν 76 [some (vr V 76), some (vi (d : Int)), some (vi (o (t + e))), some (vi (s : Int)), some (vi (abv ((t + e : Nat) : Int) (Z s) : Int))] []) → G V E ν 46 [some (vr V 76), some (vi (d : Int)), some (vi (o (t + e))), some (vi (s : Int)), some (vi (a : Int))] [] := by
        intro h'
        induction h' with
        | zero => intro a _ hmm; exact absurd hmm List.not_mem_nil
        | succ h' ihh =>
          intro a ha hmm hab hk
          have hb := h4 h' (by omega)
          refine g_aload_n hX dX7_takes_46 rfl ?_
          refine gf_X7_75 hX dX7_takes_47 ?_
          refine g_iconst hX dX7_takes_50 ?_
          refine g_iload_n hX dX7_takes_51 rfl ?_
          refine g_imul hX dX7_takes_52 ?_
          refine g_aload_n hX dX7_takes_53 rfl ?_
          refine gf_X7_72 hX dX7_takes_54 ?_
          refine g_iload_n hX dX7_takes_57 rfl ?_
          refine g_ialdN (i := s) hX dX7_takes_58 (N := 5) rfl (by omega) (by omega) (by decide) ?_
          rw [h2]
          refine g_iadd hX dX7_takes_59 ?_
          refine g_iconst hX dX7_takes_60 ?_
          refine g_isub hX dX7_takes_61 ?_
          refine g_iload hX dX7_takes_62 rfl ?_
          refine g_isub hX dX7_takes_64 ?_
          refine g_ialdN (i := 4 * s + h') hX dX7_takes_65 (N := 20) rfl (by omega) (by omega) (by decide) ?_
          refine g_iload_n hX dX7_takes_66 rfl ?_
          replace hab : a + (if tnK o n (ν 97 (4 * s + h')) = ((t + e : Nat) : Int) then 0 else abv ((t + e : Nat) : Int) ((stkL (fun k => ν 97 (4 * s + k)) h').map (tnK o n)) + 1) = abv ((t + e : Nat) : Int) (Z s) := hab
          refine g_icmp_eq (tgt := 76) hX dX7_takes_67 (by decide) ⟨by omega, by omega⟩ ⟨by omega, by omega⟩ (fun h5 => ?_) (fun h5 => ?_)
          · rw [if_pos ((hti _).mpr h5)] at hab
            rw [show a = abv ((t + e : Nat) : Int) (Z s) from hab]
            exact hk
          · rw [if_neg (fun q => h5 ((hti _).mp q))] at hab
            refine st_iinc_5_4 hX dX7_takes_70 (by first | exact ck_i _ | exact ck_r _ _ | exact ck_n | exact ck_0) ?_
            refine g_goto (tgt := 46) hX dX7_takes_73 (by decide) ?_
            refine ihh (a + 1) (by omega) ?_ (by omega) hk
            rcases List.mem_cons.mp hmm with q | q
            · exact absurd ((hti _).mp q.symm) h5
            · exact q
      refine above (Z s).length 0 (by omega) (by rw [h3]; exact hm) (by rw [h3]; omega) ?_
      have hal := abv_lt _ hm
      refine g_iload hX dX7_takes_76 rfl ?_
      refine g_if_le (tgt := 91) hX dX7_takes_78 (by decide) ⟨by omega, by omega⟩ (fun h6 => ?_) (fun h6 => ?_)
      · obtain ⟨r, hZ⟩ := abv_0 hm (by omega)
        obtain ⟨c1, c2, c3⟩ := hDν.off hs hZ
        have hZ4 : r.length < 4 := by omega
        refine g_aload_n hX dX7_takes_91 rfl ?_
        refine gf_X7_72 hX dX7_takes_92 ?_
        refine g_iload_n hX dX7_takes_95 rfl ?_
        refine g_dup2 hX dX7_takes_96 rfl rfl ?_
        refine g_ialdN (i := s) hX dX7_takes_97 (N := 5) rfl (by omega) (by omega) (by decide) ?_
        rw [h2]
        refine g_iconst hX dX7_takes_98 ?_
        refine g_isub hX dX7_takes_99 ?_
        refine g_iastN (i := s) hX dX7_takes_100 (N := 5) rfl (by omega) (by omega) (by decide) ?_
        refine g_aload_n hX dX7_takes_101 rfl ?_
        refine gf_X7_84 hX dX7_takes_102 ?_
        refine g_bipush hX dX7_takes_105 rfl ?_
        refine g_iload_n hX dX7_takes_107 rfl ?_
        refine g_imul hX dX7_takes_108 ?_
        refine g_aload_n hX dX7_takes_109 rfl ?_
        refine gf_X7_81 hX dX7_takes_110 ?_
        refine g_iload_n hX dX7_takes_113 rfl ?_
        refine g_ialdN (i := d) hX dX7_takes_114 (N := 32) rfl (by omega) (by omega) (by decide) ?_
        rw [mset_cell (a := 96) (c := 99) (by decide), h99]
        refine g_iadd hX dX7_takes_115 ?_
        refine g_iload_n hX dX7_takes_116 rfl ?_
        refine g_iastN (i := 6 * d + (t + e)) hX dX7_takes_117 (N := 192) rfl (by omega) (by omega) (by decide) ?_
        refine g_aload_n hX dX7_takes_118 rfl ?_
        refine gf_X7_81 hX dX7_takes_119 ?_
        refine g_iload_n hX dX7_takes_122 rfl ?_
        refine g_dup2 hX dX7_takes_123 rfl rfl ?_
        refine g_ialdN (i := d) hX dX7_takes_124 (N := 32) rfl (by omega) (by omega) (by decide) ?_
        rw [mset_cell (a := 100) (c := 99) (by decide), mset_cell (a := 96) (c := 99) (by decide), h99]
        refine g_iconst hX dX7_takes_125 ?_
        refine g_iadd hX dX7_takes_126 ?_
        refine g_iastN (i := d) hX dX7_takes_127 (N := 32) rfl (by omega) (by omega) (by decide) ?_
        refine g_goto (tgt := 12) hX dX7_takes_128 (by decide) ?_
        refine fg_5_4 ?_
        refine ih (e + 1) _ _ _ _ (by omega) (ck_i _) (ck_i _) (((hF.st (Or.inl rfl)).st (by omega)).st (by omega)) (c1.cg (by rw [mset_cell (by decide), mset_cell (by decide)]) (by rw [mset_cell (by decide), mset_cell (by decide)])) (hOZ.take hqn hs hZ) (by rw [mset_same]; rfl) ⟨Z, s, r, Tk_cg e Y Z (fun j hj => ?_) hT, hs, ?_, hZ, hZ4, rfl⟩ (fun k => (hiff k).trans (Dg_top hOZ hqn hs hZ))
        · show mset _ 99 d _ 100 (6 * d + j) = _
          rw [mset_ne (Or.inl (by decide)), mset_ne (Or.inr (by omega)), mset_ne (Or.inl (by decide))]
        · show mset _ 99 d _ 100 (6 * d + (t + e)) = _
          rw [mset_ne (Or.inl (by decide)), mset_same]
      · obtain ⟨x, r, hZ, hmr⟩ := abv_s hm (by omega)
        refine g_aload_n hX dX7_takes_81 rfl ?_
        refine gf_X7_87 hX dX7_takes_82 ?_
        refine g_iload_n hX dX7_takes_85 rfl ?_
        refine g_iload_n hX dX7_takes_86 rfl ?_
        refine g_iastN (i := d) hX dX7_takes_87 (N := 32) rfl (by omega) (by omega) (by decide) ?_
        refine g_iload hX dX7_takes_88 rfl ?_
        refine g_iret hX hR dX7_takes_90 ⟨_, rfl, e, Z, hF.st (by omega), hDν.cg (by rw [mset_cell (by decide)]) (by rw [mset_cell (by decide)]), hOZ, by rw [mset_cell (by decide)]; exact h99, Tk_cg e Y Z (fun j _ => by rw [mset_cell (by decide)]) hT, hiff, Or.inr ⟨hqn, s, x, r, hs, hZ, hmr, rfl, by omega, mset_same⟩⟩
  have hF1 : FM d μ (mset μ 99 d (t : Int)) := FM.rf.st (by omega)
  refine g_aload_n hX dX7_takes_0 rfl ?_
  refine gf_X7_81 hX dX7_takes_1 ?_
  refine g_iload_n hX dX7_takes_4 rfl ?_
  refine g_aload_n hX dX7_takes_5 rfl ?_
  refine gf_X7_78 hX dX7_takes_6 ?_
  refine g_iload_n hX dX7_takes_9 rfl ?_
  refine g_ialdN (i := d) hX dX7_takes_10 (N := 32) rfl (by omega) (by omega) (by decide) ?_
  rw [h98]
  refine g_iastN (i := d) hX dX7_takes_11 (N := 32) rfl (by omega) (by omega) (by decide) ?_
  exact loop (n - t) 0 _ Y _ _ (by have := hY.2.1; omega) ck_n ck_n hF1 (hD.cg (by rw [mset_cell (by decide)]) (by rw [mset_cell (by decide)])) hY mset_same rfl (fun k => Iff.rfl)
set_option maxHeartbeats 4000000 in
theorem c_gives {lnch : Launch} {V : VX} (hI : InjV V) {μ : Mem} {o : Nat → Int} {n d t e : Nat} {Y Z : Nat → List Int} (hD : DgM o n μ Z) (hO : OrdM o n μ) (hT : Tk (fun j => μ 100 (6 * d + j)) t e Y Z) (hd : d ≤ 20) (h98 : μ 98 d = (t : Int)) (h99 : μ 99 d = ((t + e : Nat) : Int)) (he : t + e ≤ n) : Ct lnch yX7_gives cX7_gives 4 none 1 V [vr V 76, vi (d : Int)] μ (pV (fun μ' => K967 μ μ' ∧ DgM o n μ' Y)) := by
  refine Ct_of (by decide) hI (Nat.le_of_ble_eq_true rfl) (fun E hE hX hR => ?_)
  have hX : OkX V E RX7 cX7_gives 4 1 := hX
  show G V E μ 0 [some (vr V 76), some (vi (d : Int)), none, none] []
  have hn6 := hO.1
  have loop : ∀ (e : Nat) (ν : Mem) (Z : Nat → List Int) (z3 : Option Value), t + e ≤ n → K967 μ ν → DgM o n ν Z → Tk (fun j => μ 100 (6 * d + j)) t e Y Z → G V E ν 9 [some (vr V 76), some (vi (d : Int)), some (vi (((t + e : Nat) : Int) - 1)), z3] [] := by
    intro e
    induction e with
    | zero =>
      intro ν Z z3 he hK hDν hT
      refine g_iload_n hX dX7_gives_9 rfl ?_
      refine g_aload_n hX dX7_gives_10 rfl ?_
      refine gf_X7_78 hX dX7_gives_11 ?_
      refine g_iload_n hX dX7_gives_14 rfl ?_
      refine g_ialdN (i := d) hX dX7_gives_15 (N := 32) rfl (by omega) (by omega) (by decide) ?_
      rw [hK 98 (by decide) (by decide), h98]
      refine g_icmp_lt (tgt := 68) hX dX7_gives_16 (by decide) ⟨by omega, by omega⟩ ⟨by omega, by omega⟩ (fun _ => ?_) (fun hc => absurd hc (by omega))
      refine g_vret hX hR dX7_gives_68 ⟨rfl, hK, by rw [← (show Z = Y from hT)]; exact hDν⟩
    | succ e ih =>
      intro ν Z z3 he hK hDν hT
      obtain ⟨W, s, r, t1, t2, t3, t4, hWl, t5⟩ := hT
      replace t3 : μ 100 (6 * d + (t + e)) = (s : Int) := t3
      obtain ⟨g1, g2, g3, g4⟩ := hDν s t2
      rw [t5, yup_eq] at g1 g2 g3 g4
      have hW : yup Z s (((t + e : Nat) : Int) :: r) = W := by rw [t5, yup_yup, ← t4, yup_id]
      obtain ⟨oo1, oo2, oo3⟩ := hO.2.2.1 (t + e) (by omega)
      have hDp := hDν.put (s := s) (x := ((t + e : Nat) : Int)) (id := o (t + e)) t2 (by rw [t5, yup_eq]; exact hWl) ((tnK_iff hO.2.2.2 hn6 (by omega)).mpr rfl) ⟨oo2, oo3⟩
      rw [t5, yup_eq, ← t5, hW] at hDp
      have hid : ((t + (e + 1) : Nat) : Int) - 1 = ((t + e : Nat) : Int) := by omega
      rw [hid]
      refine g_iload_n hX dX7_gives_9 rfl ?_
      refine g_aload_n hX dX7_gives_10 rfl ?_
      refine gf_X7_78 hX dX7_gives_11 ?_
      refine g_iload_n hX dX7_gives_14 rfl ?_
      refine g_ialdN (i := d) hX dX7_gives_15 (N := 32) rfl (by omega) (by omega) (by decide) ?_
      rw [hK 98 (by decide) (by decide), h98]
      refine g_icmp_lt (tgt := 68) hX dX7_gives_16 (by decide) ⟨by omega, by omega⟩ ⟨by omega, by omega⟩ (fun hc => absurd hc (by omega)) (fun _ => ?_)
      refine g_aload_n hX dX7_gives_19 rfl ?_
      refine gf_X7_84 hX dX7_gives_20 ?_
      refine g_bipush hX dX7_gives_23 rfl ?_
      refine g_iload_n hX dX7_gives_25 rfl ?_
      refine g_imul hX dX7_gives_26 ?_
      refine g_iload_n hX dX7_gives_27 rfl ?_
      refine g_iadd hX dX7_gives_28 ?_
      refine g_ialdN (i := 6 * d + (t + e)) hX dX7_gives_29 (N := 192) rfl (by omega) (by omega) (by decide) ?_
      rw [hK 100 (by decide) (by decide), t3]
      refine st_istore_n_4_3 hX dX7_gives_30 (by first | exact ck_i _ | exact ck_r _ _ | exact ck_n | exact ck_0) ?_
      refine g_aload_n hX dX7_gives_31 rfl ?_
      refine gf_X7_75 hX dX7_gives_32 ?_
      refine g_iconst hX dX7_gives_35 ?_
      refine g_iload_n hX dX7_gives_36 rfl ?_
      refine g_imul hX dX7_gives_37 ?_
      refine g_aload_n hX dX7_gives_38 rfl ?_
      refine gf_X7_72 hX dX7_gives_39 ?_
      refine g_iload_n hX dX7_gives_42 rfl ?_
      refine g_ialdN (i := s) hX dX7_gives_43 (N := 5) rfl (by omega) (by omega) (by decide) ?_
      rw [g2]
      refine g_iadd hX dX7_gives_44 ?_
      refine g_aload_n hX dX7_gives_45 rfl ?_
      refine gf_X7_69 hX dX7_gives_46 ?_
      refine g_iload_n hX dX7_gives_49 rfl ?_
      refine g_ialdN (i := t + e) hX dX7_gives_50 (N := 6) rfl (by omega) (by omega) (by decide) ?_
      rw [hK 95 (by decide) (by decide), oo1]
      refine g_iastN (i := 4 * s + r.length) hX dX7_gives_51 (N := 20) rfl (by omega) (by omega) (by decide) ?_
      refine g_aload_n hX dX7_gives_52 rfl ?_
      refine gf_X7_72 hX dX7_gives_53 ?_
      refine g_iload_n hX dX7_gives_56 rfl ?_
      refine g_dup2 hX dX7_gives_57 rfl rfl ?_
      refine g_ialdN (i := s) hX dX7_gives_58 (N := 5) rfl (by omega) (by omega) (by decide) ?_
      rw [mset_cell (a := 97) (c := 96) (by decide), g2]
      refine g_iconst hX dX7_gives_59 ?_
      refine g_iadd hX dX7_gives_60 ?_
      refine g_iastN (i := s) hX dX7_gives_61 (N := 5) rfl (by omega) (by omega) (by decide) ?_
      refine st_iinc_4_2 hX dX7_gives_62 (by first | exact ck_i _ | exact ck_r _ _ | exact ck_n | exact ck_0) ?_
      refine g_goto (tgt := 9) hX dX7_gives_65 (by decide) ?_
      exact ih _ W _ (by omega) ((hK.st (Or.inr rfl)).st (Or.inl rfl)) hDp t1
  refine g_aload_n hX dX7_gives_0 rfl ?_
  refine gf_X7_81 hX dX7_gives_1 ?_
  refine g_iload_n hX dX7_gives_4 rfl ?_
  refine g_ialdN (i := d) hX dX7_gives_5 (N := 32) rfl (by omega) (by omega) (by decide) ?_
  rw [h99]
  refine g_iconst hX dX7_gives_6 ?_
  refine g_isub hX dX7_gives_7 ?_
  refine st_istore_n_4_2 hX dX7_gives_8 (by first | exact ck_i _ | exact ck_r _ _ | exact ck_n | exact ck_0) ?_
  exact loop e μ Z _ he (fun _ _ _ => rfl) hD hT
