/-! the reference's yard -/
def DgM (o : Nat → Int) (n : Nat) (ν : Mem) (Y : Nat → List Int) : Prop := ∀ s, s < 5 → (Y s).length ≤ 4 ∧ ν 96 s = ((Y s).length : Int) ∧ (stkL (fun k => ν 97 (4 * s + k)) (Y s).length).map (tnK o n) = Y s ∧ ∀ k, k < (Y s).length → 0 ≤ ν 97 (4 * s + k) ∧ ν 97 (4 * s + k) < 40
theorem DgM.cg {o : Nat → Int} {n : Nat} {ν ν' : Mem} {Y : Nat → List Int} (h : DgM o n ν Y) (h1 : ν' 96 = ν 96) (h2 : ν' 97 = ν 97) : DgM o n ν' Y := fun s hs => by
  rw [h1, h2]; exact h s hs
theorem DgM.off {o : Nat → Int} {n s : Nat} {ν : Mem} {Y : Nat → List Int} {x : Int} {r : List Int} (h : DgM o n ν Y) (hs : s < 5) (hY : Y s = x :: r) : DgM o n (mset ν 96 s (((Y s).length : Int) - 1)) (yup Y s r) ∧ tnK o n (ν 97 (4 * s + r.length)) = x ∧ (Y s).length = r.length + 1 := by
  have hrow : tnK o n (ν 97 (4 * s + r.length)) = x ∧ (stkL (fun k => ν 97 (4 * s + k)) r.length).map (tnK o n) = r := by
    have h3 := (h s hs).2.2.1
    rw [hY, List.length_cons] at h3
    exact List.cons.inj h3
  refine ⟨fun q hq => ?_, hrow.1, by rw [hY]; rfl⟩
  obtain ⟨h1, h2, h3, h4⟩ := h q hq
  rw [mset_cell (a := 96) (c := 97) (by decide)]
  by_cases e : q = s
  · subst e
    rw [yup_eq, mset_same]
    have hl : (Y q).length = r.length + 1 := by rw [hY]; rfl
    exact ⟨by omega, by omega, hrow.2, fun k hk => h4 k (by omega)⟩
  · rw [yup_ne e, mset_ne (Or.inr e)]
    exact ⟨h1, h2, h3, h4⟩
theorem DgM.put {o : Nat → Int} {n s : Nat} {ν : Mem} {Y : Nat → List Int} {x id : Int} (h : DgM o n ν Y) (hs : s < 5) (hl : (Y s).length < 4) (hx : tnK o n id = x) (hid : 0 ≤ id ∧ id < 40) : DgM o n (mset (mset ν 97 (4 * s + (Y s).length) id) 96 s (((Y s).length : Int) + 1)) (yup Y s (x :: Y s)) := fun q hq => by
  obtain ⟨h1, h2, h3, h4⟩ := h q hq
  rw [mset_cell (a := 96) (c := 97) (by decide)]
  by_cases e : q = s
  · subst e
    rw [yup_eq, List.length_cons, mset_same]
    refine ⟨hl, by omega, ?_, fun k hk => ?_⟩
    · show tnK o n (mset ν 97 (4 * q + (Y q).length) id 97 (4 * q + (Y q).length)) :: List.map _ (stkL _ (Y q).length) = _
      rw [mset_same, hx, stkL_cg (row' := fun k => ν 97 (4 * q + k)) (Y q).length (fun j hj => mset_ne (Or.inr (by omega))), h3]
    · by_cases e2 : k = (Y q).length
      · rw [e2, mset_same]; exact hid
      · rw [mset_ne (Or.inr (by omega))]; exact h4 k (by omega)
  · rw [yup_ne e, mset_ne (Or.inr e), mset_ne (Or.inl (by decide))]
    refine ⟨h1, h2, ?_, fun k hk => ?_⟩
    · rw [stkL_cg (row' := fun k => ν 97 (4 * q + k)) (Y q).length (fun j hj => mset_ne (Or.inr (by omega)))]
      exact h3
    · rw [mset_ne (Or.inr (by omega))]; exact h4 k hk
/-- the orders: distinct, parts -/
def OrdM (o : Nat → Int) (n : Nat) (ν : Mem) : Prop := n ≤ 6 ∧ ν 76 26 = (n : Int) ∧ (∀ i, i < n → ν 95 i = o i ∧ 0 ≤ o i ∧ o i < 40) ∧ ∀ i j, i < j → j < n → o i ≠ o j
theorem OrdM.cg {o : Nat → Int} {n : Nat} {ν ν' : Mem} (h : OrdM o n ν) (h1 : ν' 76 = ν 76) (h2 : ν' 95 = ν 95) : OrdM o n ν' := by
  unfold OrdM at *
  rw [h1, h2]; exact h
theorem DgM.row {o : Nat → Int} {n s k : Nat} {ν : Mem} {Y : Nat → List Int} (h : DgM o n ν Y) (hs : s < 5) (hk : k < (Y s).length) : tnK o n (ν 97 (4 * s + k)) ∈ Y s := by
  have h3 := (h s hs).2.2.1
  have := List.mem_map_of_mem (f := tnK o n) (stkL_mem (row := fun k => ν 97 (4 * s + k)) (Y s).length k hk)
  rw [h3] at this
  exact this
set_option maxHeartbeats 4000000 in
theorem c_stOf {lnch : Launch} {V : VX} (hI : InjV V) {μ : Mem} {o : Nat → Int} {n t s : Nat} {Y : Nat → List Int} (hD : DgM o n μ Y) (hO : OrdM o n μ) (ht : t < n) (hs : s < 5) (hm : (t : Int) ∈ Y s) (hu : ∀ s', s' < 5 → (t : Int) ∈ Y s' → s' = s) : Ct lnch yX7_stackOf cX7_stackOf 5 (some .int) 1 V [vr V 76, vi (o t)] μ (pI (fun z μ' => z = (s : Int) ∧ μ' = μ)) := by
  refine Ct_of (by decide) hI (Nat.le_of_ble_eq_true rfl) (fun E hE hX hR => ?_)
  have hX : OkX V E RX7 cX7_stackOf 5 1 := hX
  show G V E μ 0 [some (vr V 76), some (vi (o t)), none, none, none] []
  obtain ⟨ho1, ho2, ho3, ho4⟩ := hO
  have hot := (ho3 t ht).2
  have hiff : ∀ p, tnK o n p = (t : Int) ↔ p = o t := fun p => tnK_iff ho4 ho1 ht
  have out : ∀ (e i : Nat) (z : Int) (z4 : Option Value), i + e = 5 → (z = (s : Int) ∨ (z = -1 ∧ ∀ i', i' < i → ¬ (t : Int) ∈ Y i')) → G V E μ 4 [some (vr V 76), some (vi (o t)), some (vi z), some (vi (i : Int)), z4] [] := by
    intro e
    induction e with
    | zero =>
      intro i z z4 hi hz
      refine g_iload_n hX dX7_stackOf_4 rfl ?_
      refine g_iconst hX dX7_stackOf_5 ?_
      refine g_icmp_ge (tgt := 56) hX dX7_stackOf_6 (by decide) ⟨by omega, by omega⟩ ⟨by omega, by omega⟩ (fun _ => ?_) (fun hc => absurd hc (by omega))
      refine g_iload_n hX dX7_stackOf_56 rfl ?_
      refine g_iret hX hR dX7_stackOf_57 ⟨_, rfl, ?_, rfl⟩
      rcases hz with h | ⟨-, h⟩
      · exact h
      · exact absurd hm (h s (by omega))
    | succ e ih =>
      intro i z z4 hi hz
      obtain ⟨h1, h2, h3, h4⟩ := hD i (by omega)
      have row : ∀ (d j : Nat) (z : Int), j + d = (Y i).length → (z = (s : Int) ∨ (z = -1 ∧ (∀ i', i' < i → ¬ (t : Int) ∈ Y i') ∧ ∀ k, k < j → μ 97 (4 * i + k) ≠ o t)) → G V E μ 12 [some (vr V 76), some (vi (o t)), some (vi z), some (vi (i : Int)), some (vi (j : Int))] [] := by
        intro d
        induction d with
        | zero =>
          intro j z hj hz
          refine g_iload hX dX7_stackOf_12 rfl ?_
          refine g_aload_n hX dX7_stackOf_14 rfl ?_
          refine gf_X7_72 hX dX7_stackOf_15 ?_
          refine g_iload_n hX dX7_stackOf_18 rfl ?_
          refine g_ialdN (i := i) hX dX7_stackOf_19 (N := 5) rfl (by omega) (by omega) (by decide) ?_
          rw [h2]
          refine g_icmp_ge (tgt := 50) hX dX7_stackOf_20 (by decide) ⟨by omega, by omega⟩ ⟨by omega, by omega⟩ (fun _ => ?_) (fun hc => absurd hc (by omega))
          refine st_iinc_5_3 hX dX7_stackOf_50 (by first | exact ck_i _ | exact ck_r _ _ | exact ck_n | exact ck_0) ?_
          refine g_goto (tgt := 4) hX dX7_stackOf_53 (by decide) ?_
          refine ih (i + 1) z _ (by omega) ?_
          rcases hz with h | ⟨h5, h6, h7⟩
          · exact Or.inl h
          · refine Or.inr ⟨h5, fun i' hi' hmem => ?_⟩
            by_cases e : i' = i
            · rw [e, ← h3] at hmem
              obtain ⟨p, h8, h9⟩ := List.mem_map.mp hmem
              obtain ⟨k, h10, h11⟩ := stkL_in _ h8
              exact h7 k (by omega) (h11.trans ((hiff p).mp h9))
            · exact h6 i' (by omega) hmem
        | succ d ihd =>
          intro j z hj hz
          have hb := h4 j (by omega)
          refine g_iload hX dX7_stackOf_12 rfl ?_
          refine g_aload_n hX dX7_stackOf_14 rfl ?_
          refine gf_X7_72 hX dX7_stackOf_15 ?_
          refine g_iload_n hX dX7_stackOf_18 rfl ?_
          refine g_ialdN (i := i) hX dX7_stackOf_19 (N := 5) rfl (by omega) (by omega) (by decide) ?_
          rw [h2]
          refine g_icmp_ge (tgt := 50) hX dX7_stackOf_20 (by decide) ⟨by omega, by omega⟩ ⟨by omega, by omega⟩ (fun hc => absurd hc (by omega)) (fun _ => ?_)
          refine g_aload_n hX dX7_stackOf_23 rfl ?_
          refine gf_X7_75 hX dX7_stackOf_24 ?_
          refine g_iconst hX dX7_stackOf_27 ?_
          refine g_iload_n hX dX7_stackOf_28 rfl ?_
          refine g_imul hX dX7_stackOf_29 ?_
          refine g_iload hX dX7_stackOf_30 rfl ?_
          refine g_iadd hX dX7_stackOf_32 ?_
          refine g_ialdN (i := 4 * i + j) hX dX7_stackOf_33 (N := 20) rfl (by omega) (by omega) (by decide) ?_
          refine g_iload_n hX dX7_stackOf_34 rfl ?_
          refine g_icmp_ne (tgt := 42) hX dX7_stackOf_35 (by decide) ⟨by omega, by omega⟩ ⟨by omega, by omega⟩ (fun h5 => ?_) (fun h5 => ?_)
          · refine g_iload_n hX dX7_stackOf_42 rfl ?_
            refine st_istore_n_5_2 hX dX7_stackOf_43 (by first | exact ck_i _ | exact ck_r _ _ | exact ck_n | exact ck_0) ?_
            refine st_iinc_5_4 hX dX7_stackOf_44 (by first | exact ck_i _ | exact ck_r _ _ | exact ck_n | exact ck_0) ?_
            refine g_goto (tgt := 12) hX dX7_stackOf_47 (by decide) ?_
            refine ihd (j + 1) z (by omega) ?_
            rcases hz with h | ⟨h6, h7, h8⟩
            · exact Or.inl h
            · refine Or.inr ⟨h6, h7, fun k hk => ?_⟩
              by_cases e : k = j
              · rw [e]; exact h5
              · exact h8 k (by omega)
          · refine g_iload_n hX dX7_stackOf_38 rfl ?_
            refine g_goto (tgt := 43) hX dX7_stackOf_39 (by decide) ?_
            refine st_istore_n_5_2 hX dX7_stackOf_43 (by first | exact ck_i _ | exact ck_r _ _ | exact ck_n | exact ck_0) ?_
            refine st_iinc_5_4 hX dX7_stackOf_44 (by first | exact ck_i _ | exact ck_r _ _ | exact ck_n | exact ck_0) ?_
            refine g_goto (tgt := 12) hX dX7_stackOf_47 (by decide) ?_
            have hme : (t : Int) ∈ Y i := by
              have := hD.row (s := i) (by omega) (show j < (Y i).length by omega)
              rw [(hiff _).mpr h5] at this
              exact this
            exact ihd (j + 1) (i : Int) (by omega) (Or.inl (by rw [hu i (by omega) hme]))
      refine g_iload_n hX dX7_stackOf_4 rfl ?_
      refine g_iconst hX dX7_stackOf_5 ?_
      refine g_icmp_ge (tgt := 56) hX dX7_stackOf_6 (by decide) ⟨by omega, by omega⟩ ⟨by omega, by omega⟩ (fun hc => absurd hc (by omega)) (fun _ => ?_)
      refine g_iconst hX dX7_stackOf_9 ?_
      refine st_istore_5_4 hX dX7_stackOf_10 (by first | exact ck_i _ | exact ck_r _ _ | exact ck_n | exact ck_0) ?_
      refine row (Y i).length 0 z (by omega) ?_
      rcases hz with h | ⟨h5, h6⟩
      · exact Or.inl h
      · exact Or.inr ⟨h5, h6, fun k hk => absurd hk (by omega)⟩
  refine g_iconst hX dX7_stackOf_0 ?_
  refine st_istore_n_5_2 hX dX7_stackOf_1 (by first | exact ck_i _ | exact ck_r _ _ | exact ck_n | exact ck_0) ?_
  refine g_iconst hX dX7_stackOf_2 ?_
  refine st_istore_n_5_3 hX dX7_stackOf_3 (by first | exact ck_i _ | exact ck_r _ _ | exact ck_n | exact ck_0) ?_
  exact out 5 0 (-1) _ (by omega) (Or.inr ⟨rfl, fun i' hi' => absurd hi' (by omega)⟩)
def K967 (μ μ' : Mem) : Prop := ∀ k, k ≠ 96 → k ≠ 97 → μ' k = μ k
theorem K967.st {μ ν : Mem} {k j : Nat} {v : Int} (h : K967 μ ν) (hk : k = 96 ∨ k = 97) : K967 μ (mset ν k j v) := fun q h1 h2 => by
  rw [mset_cell (by omega)]; exact h q h1 h2
set_option maxHeartbeats 4000000 in
theorem c_lies {lnch : Launch} {V : VX} (hI : InjV V) {μ : Mem}  : Ct lnch yX7_lies cX7_lies 2 none 1 V [vr V 76] μ (pV (fun μ' => K967 μ μ' ∧ (∀ s, s < 5 → μ' 96 s = μ 89 s) ∧ ∀ k, k < 20 → μ' 97 k = μ 90 k)) := by
  refine Ct_of (by decide) hI (Nat.le_of_ble_eq_true rfl) (fun E hE hX hR => ?_)
  have hX : OkX V E RX7 cX7_lies 2 1 := hX
  show G V E μ 0 [some (vr V 76), none] []
  have two : ∀ (e i : Nat) (ν : Mem), i + e = 20 → K967 μ ν → (∀ s, s < 5 → ν 96 s = μ 89 s) → (∀ k, k < i → ν 97 k = μ 90 k) → G V E ν 27 [some (vr V 76), some (vi (i : Int))] [] := by
    intro e
    induction e with
    | zero =>
      intro i ν hi hK h1 h2
      refine g_iload_n hX dX7_lies_27 rfl ?_
      refine g_bipush hX dX7_lies_28 rfl ?_
      refine g_icmp_ge (tgt := 51) hX dX7_lies_30 (by decide) ⟨by omega, by omega⟩ ⟨by omega, by omega⟩ (fun _ => ?_) (fun hc => absurd hc (by omega))
      refine g_vret hX hR dX7_lies_51 ⟨rfl, hK, h1, fun k hk => h2 k (by omega)⟩
    | succ e ih =>
      intro i ν hi hK h1 h2
      refine g_iload_n hX dX7_lies_27 rfl ?_
      refine g_bipush hX dX7_lies_28 rfl ?_
      refine g_icmp_ge (tgt := 51) hX dX7_lies_30 (by decide) ⟨by omega, by omega⟩ ⟨by omega, by omega⟩ (fun hc => absurd hc (by omega)) (fun _ => ?_)
      refine g_aload_n hX dX7_lies_33 rfl ?_
      refine gf_X7_75 hX dX7_lies_34 ?_
      refine g_iload_n hX dX7_lies_37 rfl ?_
      refine g_aload_n hX dX7_lies_38 rfl ?_
      refine gf_X7_54 hX dX7_lies_39 ?_
      refine g_iload_n hX dX7_lies_42 rfl ?_
      refine g_ialdN (i := i) hX dX7_lies_43 (N := 20) rfl (by omega) (by omega) (by decide) ?_
      refine g_iastN (i := i) hX dX7_lies_44 (N := 20) rfl (by omega) (by omega) (by decide) ?_
      refine st_iinc_2_1 hX dX7_lies_45 (by first | exact ck_i _ | exact ck_r _ _ | exact ck_n | exact ck_0) ?_
      refine g_goto (tgt := 27) hX dX7_lies_48 (by decide) ?_
      refine ih (i + 1) _ (by omega) (hK.st (Or.inr rfl)) (fun s hs => by rw [mset_cell (by decide)]; exact h1 s hs) (fun k hk => ?_)
      by_cases e : k = i
      · rw [e, mset_same, hK 90 (by decide) (by decide)]
      · rw [mset_ne (Or.inr e)]; exact h2 k (by omega)
  have one : ∀ (e i : Nat) (ν : Mem), i + e = 5 → K967 μ ν → (∀ s, s < i → ν 96 s = μ 89 s) → G V E ν 2 [some (vr V 76), some (vi (i : Int))] [] := by
    intro e
    induction e with
    | zero =>
      intro i ν hi hK h1
      refine g_iload_n hX dX7_lies_2 rfl ?_
      refine g_iconst hX dX7_lies_3 ?_
      refine g_icmp_ge (tgt := 25) hX dX7_lies_4 (by decide) ⟨by omega, by omega⟩ ⟨by omega, by omega⟩ (fun _ => ?_) (fun hc => absurd hc (by omega))
      refine g_iconst hX dX7_lies_25 ?_
      refine st_istore_n_2_1 hX dX7_lies_26 (by first | exact ck_i _ | exact ck_r _ _ | exact ck_n | exact ck_0) ?_
      exact two 20 0 ν (by omega) hK (fun s hs => h1 s (by omega)) (fun k hk => absurd hk (by omega))
    | succ e ih =>
      intro i ν hi hK h1
      refine g_iload_n hX dX7_lies_2 rfl ?_
      refine g_iconst hX dX7_lies_3 ?_
      refine g_icmp_ge (tgt := 25) hX dX7_lies_4 (by decide) ⟨by omega, by omega⟩ ⟨by omega, by omega⟩ (fun hc => absurd hc (by omega)) (fun _ => ?_)
      refine g_aload_n hX dX7_lies_7 rfl ?_
      refine gf_X7_72 hX dX7_lies_8 ?_
      refine g_iload_n hX dX7_lies_11 rfl ?_
      refine g_aload_n hX dX7_lies_12 rfl ?_
      refine gf_X7_51 hX dX7_lies_13 ?_
      refine g_iload_n hX dX7_lies_16 rfl ?_
      refine g_ialdN (i := i) hX dX7_lies_17 (N := 5) rfl (by omega) (by omega) (by decide) ?_
      refine g_iastN (i := i) hX dX7_lies_18 (N := 5) rfl (by omega) (by omega) (by decide) ?_
      refine st_iinc_2_1 hX dX7_lies_19 (by first | exact ck_i _ | exact ck_r _ _ | exact ck_n | exact ck_0) ?_
      refine g_goto (tgt := 2) hX dX7_lies_22 (by decide) ?_
      refine ih (i + 1) _ (by omega) (hK.st (Or.inl rfl)) (fun s hs => ?_)
      by_cases e : s = i
      · rw [e, mset_same, hK 89 (by decide) (by decide)]
      · rw [mset_ne (Or.inr e)]; exact h1 s (by omega)
  refine g_iconst hX dX7_lies_0 ?_
  refine st_istore_n_2_1 hX dX7_lies_1 (by first | exact ck_i _ | exact ck_r _ _ | exact ck_n | exact ck_0) ?_
  exact one 5 0 μ (by omega) (fun _ _ _ => rfl) (fun s hs => absurd hs (by omega))
set_option maxHeartbeats 4000000 in
theorem c_carries {lnch : Launch} {V : VX} (hI : InjV V) {μ : Mem} {o : Nat → Int} {n a b : Nat} {Y : Nat → List Int} {x : Int} {r : List Int} (hD : DgM o n μ Y) (ha : a < 5) (hb : b < 5) (hne : b ≠ a) (hY : Y a = x :: r) (hl : (Y b).length < 4) : Ct lnch yX7_carries cX7_carries 3 none 1 V [vr V 76, vi (a : Int), vi (b : Int)] μ (pV (fun μ' => K967 μ μ' ∧ DgM o n μ' (mvY Y a b x r))) := by
  refine Ct_of (by decide) hI (Nat.le_of_ble_eq_true rfl) (fun E hE hX hR => ?_)
  have hX : OkX V E RX7 cX7_carries 3 1 := hX
  show G V E μ 0 [some (vr V 76), some (vi (a : Int)), some (vi (b : Int))] []
  obtain ⟨o1, o2, o3⟩ := hD.off ha hY
  obtain ⟨h1, h2, h3, h4⟩ := hD a ha
  obtain ⟨g1, g2, g3, g4⟩ := o1 b hb
  rw [yup_ne hne] at g1 g2 g3 g4
  have hid := h4 r.length (by omega)
  have hp := o1.put (s := b) hb (by rw [yup_ne hne]; exact hl) o2 hid
  rw [yup_ne hne] at hp
  have e96a : mset μ 96 a (((Y a).length : Int) - 1) 96 a = (r.length : Int) := by rw [mset_same]; omega
  refine g_aload_n hX dX7_carries_0 rfl ?_
  refine gf_X7_72 hX dX7_carries_1 ?_
  refine g_iload_n hX dX7_carries_4 rfl ?_
  refine g_dup2 hX dX7_carries_5 rfl rfl ?_
  refine g_ialdN (i := a) hX dX7_carries_6 (N := 5) rfl (by omega) (by omega) (by decide) ?_
  rw [h2]
  refine g_iconst hX dX7_carries_7 ?_
  refine g_isub hX dX7_carries_8 ?_
  refine g_iastN (i := a) hX dX7_carries_9 (N := 5) rfl (by omega) (by omega) (by decide) ?_
  refine g_aload_n hX dX7_carries_10 rfl ?_
  refine gf_X7_75 hX dX7_carries_11 ?_
  refine g_iconst hX dX7_carries_14 ?_
  refine g_iload_n hX dX7_carries_15 rfl ?_
  refine g_imul hX dX7_carries_16 ?_
  refine g_aload_n hX dX7_carries_17 rfl ?_
  refine gf_X7_72 hX dX7_carries_18 ?_
  refine g_iload_n hX dX7_carries_21 rfl ?_
  refine g_ialdN (i := b) hX dX7_carries_22 (N := 5) rfl (by omega) (by omega) (by decide) ?_
  rw [g2]
  refine g_iadd hX dX7_carries_23 ?_
  refine g_aload_n hX dX7_carries_24 rfl ?_
  refine gf_X7_75 hX dX7_carries_25 ?_
  refine g_iconst hX dX7_carries_28 ?_
  refine g_iload_n hX dX7_carries_29 rfl ?_
  refine g_imul hX dX7_carries_30 ?_
  refine g_aload_n hX dX7_carries_31 rfl ?_
  refine gf_X7_72 hX dX7_carries_32 ?_
  refine g_iload_n hX dX7_carries_35 rfl ?_
  refine g_ialdN (i := a) hX dX7_carries_36 (N := 5) rfl (by omega) (by omega) (by decide) ?_
  rw [e96a]
  refine g_iadd hX dX7_carries_37 ?_
  refine g_ialdN (i := 4 * a + r.length) hX dX7_carries_38 (N := 20) rfl (by omega) (by omega) (by decide) ?_
  refine g_iastN (i := 4 * b + (Y b).length) hX dX7_carries_39 (N := 20) rfl (by omega) (by omega) (by decide) ?_
  rw [mset_cell (a := 96) (c := 97) (by decide)]
  refine g_aload_n hX dX7_carries_40 rfl ?_
  refine gf_X7_72 hX dX7_carries_41 ?_
  refine g_iload_n hX dX7_carries_44 rfl ?_
  refine g_dup2 hX dX7_carries_45 rfl rfl ?_
  refine g_ialdN (i := b) hX dX7_carries_46 (N := 5) rfl (by omega) (by omega) (by decide) ?_
  rw [mset_cell (a := 97) (c := 96) (by decide), g2]
  refine g_iconst hX dX7_carries_47 ?_
  refine g_iadd hX dX7_carries_48 ?_
  refine g_iastN (i := b) hX dX7_carries_49 (N := 5) rfl (by omega) (by omega) (by decide) ?_
  refine g_vret hX hR dX7_carries_50 ⟨rfl, ?_, hp⟩
  exact ((K967.st (fun _ _ _ => rfl) (Or.inl rfl)).st (Or.inr rfl)).st (Or.inl rfl)
