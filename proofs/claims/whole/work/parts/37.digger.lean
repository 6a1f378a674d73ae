/-! the digger -/
def stkL (row : Nat → Int) : Nat → List Int
  | 0 => []
  | h + 1 => row h :: stkL row h
theorem stkL_len (row : Nat → Int) : ∀ h, (stkL row h).length = h := by
  intro h
  induction h with
  | zero => rfl
  | succ h ih => show (stkL row h).length + 1 = h + 1; rw [ih]
theorem stkL_cg {row row' : Nat → Int} : ∀ h, (∀ j, j < h → row j = row' j) → stkL row h = stkL row' h := by
  intro h
  induction h with
  | zero => intro _; rfl
  | succ h ih => intro hj; show row h :: _ = row' h :: _; rw [hj h (by omega), ih (fun j hj' => hj j (by omega))]
theorem stkL_in {row : Nat → Int} {x : Int} : ∀ h, x ∈ stkL row h → ∃ j, j < h ∧ row j = x := by
  intro h
  induction h with
  | zero => intro h; exact absurd h List.not_mem_nil
  | succ h ih =>
    intro hx
    rcases List.mem_cons.mp hx with e | e
    · exact ⟨h, by omega, e.symm⟩
    · obtain ⟨j, h1, h2⟩ := ih e
      exact ⟨j, by omega, h2⟩
theorem stkL_mem {row : Nat → Int} : ∀ h j, j < h → row j ∈ stkL row h := by
  intro h
  induction h with
  | zero => intro j hj; omega
  | succ h ih =>
    intro j hj
    by_cases e : j = h
    · rw [e]; exact List.mem_cons_self
    · exact List.mem_cons_of_mem _ (ih j (by omega))
def DgX (ν : Mem) (Y : Nat → List Int) : Prop := ∀ s, s < 5 → (Y s).length ≤ 4 ∧ ν (53 + s) 1 = ((Y s).length : Int) ∧ stkL (ν (53 + s + 5)) (Y s).length = Y s ∧ ∀ x ∈ Y s, 0 ≤ x ∧ x ≤ 6
theorem DgX.cg {ν ν' : Mem} {Y : Nat → List Int} (h : DgX ν Y) (hk : ∀ k, 53 ≤ k → k ≤ 62 → ν' k = ν k) : DgX ν' Y := fun s hs => by
  obtain ⟨h1, h2, h3, h4⟩ := h s hs
  rw [hk (53 + s) (by omega) (by omega), hk (53 + s + 5) (by omega) (by omega)]
  exact ⟨h1, h2, h3, h4⟩
theorem DgX.put {ν : Mem} {Y : Nat → List Int} {s : Nat} {x : Int} (h : DgX ν Y) (hs : s < 5) (hl : (Y s).length < 4) (hx : 0 ≤ x ∧ x ≤ 6) : DgX (mset (mset ν (53 + s + 5) (Y s).length x) (53 + s) 1 (((Y s).length : Int) + 1)) (yup Y s (x :: Y s)) := fun q hq => by
  obtain ⟨h1, h2, h3, h4⟩ := h q hq
  by_cases e : q = s
  · subst e
    rw [yup_eq, List.length_cons, mset_same]
    refine ⟨hl, by omega, ?_, fun y hy => ?_⟩
    · rw [mset_cell (by omega)]
      show mset ν (53 + q + 5) (Y q).length x (53 + q + 5) (Y q).length :: stkL _ (Y q).length = _
      rw [mset_same, stkL_cg (row' := ν (53 + q + 5)) (Y q).length (fun j hj => mset_ne (Or.inr (by omega))), h3]
    · rcases List.mem_cons.mp hy with e | e
      · rw [e]; exact hx
      · exact h4 y e
  · rw [yup_ne e, mset_cell (by omega), mset_cell (by omega), mset_cell (by omega), mset_cell (by omega)]
    exact ⟨h1, h2, h3, h4⟩
theorem DgX.off {ν : Mem} {Y : Nat → List Int} {s : Nat} {x : Int} {r : List Int} (h : DgX ν Y) (hs : s < 5) (hY : Y s = x :: r) : DgX (mset ν (53 + s) 1 (((Y s).length : Int) - 1)) (yup Y s r) ∧ ν (53 + s + 5) ((Y s).length - 1) = x ∧ 0 < (Y s).length ∧ (0 ≤ x ∧ x ≤ 6) := by
  have hrow : ν (53 + s + 5) r.length = x ∧ stkL (ν (53 + s + 5)) r.length = r := by
    have h3 := (h s hs).2.2.1
    rw [hY, List.length_cons] at h3
    exact List.cons.inj h3
  refine ⟨fun q hq => ?_, by rw [hY, List.length_cons]; exact hrow.1, by rw [hY]; exact Nat.succ_pos _, (h s hs).2.2.2 x (by rw [hY]; exact List.mem_cons_self)⟩
  obtain ⟨h1, h2, h3, h4⟩ := h q hq
  by_cases e : q = s
  · subst e
    rw [yup_eq, mset_same, mset_cell (by omega)]
    rw [hY, List.length_cons] at h1 ⊢
    exact ⟨by omega, by omega, hrow.2, fun y hy => h4 y (by rw [hY]; exact List.mem_cons_of_mem _ hy)⟩
  · rw [yup_ne e, mset_cell (by omega), mset_cell (by omega)]
    exact ⟨h1, h2, h3, h4⟩
set_option maxHeartbeats 4000000 in
theorem c_pileOf {lnch : Launch} {V : VX} (hI : InjV V) {μ : Mem} {i : Int} (hi : in32 i) : Ct lnch yX1_pileOf cX1_pileOf 2 (some (.object "StoneBeds$Pile")) 1 V [vr V 72, vi i] μ (pR V (fun r μ' => r = (if 0 ≤ i ∧ i < 5 then some (53 + i.toNat) else none) ∧ μ' = μ)) := by
  refine Ct_of (by decide) hI (Nat.le_of_ble_eq_true rfl) (fun E hE hX hR => ?_)
  have hX : OkX V E RX1 cX1_pileOf 2 1 := hX
  show G V E μ 0 [some (vr V 72), some (vi i)] []
  obtain ⟨hi1, hi2⟩ := hi
  refine g_iload_n hX dX1_pileOf_0 rfl ?_
  refine g_if_lt (tgt := 13) hX dX1_pileOf_1 (by decide) ⟨by omega, by omega⟩ (fun h1 => ?_) (fun h1 => ?_)
  · refine g_null hX dX1_pileOf_13 ?_
    refine g_goto (tgt := 23) hX dX1_pileOf_14 (by decide) ?_
    refine g_aret hX hR dX1_pileOf_23 (r := none) rfl ⟨_, rfl, by rw [if_neg (by omega)], rfl⟩
  · refine g_iload_n hX dX1_pileOf_4 rfl ?_
    refine g_aload_n hX dX1_pileOf_5 rfl ?_
    refine gf_X1_11 hX dX1_pileOf_6 ?_
    refine g_alen hX dX1_pileOf_9 (N := 5) (Or.inr (Or.inr (Or.inr (Or.inr ⟨rfl, rfl⟩)))) ?_
    refine g_icmp_lt (tgt := 17) hX dX1_pileOf_10 (by decide) ⟨by omega, by omega⟩ ⟨by omega, by omega⟩ (fun h2 => ?_) (fun h2 => ?_)
    · refine g_aload_n hX dX1_pileOf_17 rfl ?_
      refine gf_X1_11 hX dX1_pileOf_18 ?_
      refine g_iload_n hX dX1_pileOf_21 rfl ?_
      refine g_ald_piles (i := i.toNat) hX dX1_pileOf_22 (by omega) (by omega) ?_
      refine g_aret hX hR dX1_pileOf_23 (r := some (53 + i.toNat)) rfl ⟨_, rfl, by rw [if_pos (by omega)], rfl⟩
    · refine g_null hX dX1_pileOf_13 ?_
      refine g_goto (tgt := 23) hX dX1_pileOf_14 (by decide) ?_
      refine g_aret hX hR dX1_pileOf_23 (r := none) rfl ⟨_, rfl, by rw [if_neg (by omega)], rfl⟩
set_option maxHeartbeats 4000000 in
theorem c_holds {lnch : Launch} {V : VX} (hI : InjV V) {μ : Mem} {k h : Nat} {t : Int} (hk : okd k = 5) (hh : μ k 1 = (h : Int)) (h4 : h ≤ 4) (ht : in32 t) (hr : ∀ j, j < h → in32 (μ (k + 5) j)) : Ct lnch yX5_holds cX5_holds 3 (some .boolean) 2 V [vr V k, vi t] μ (pI (fun z μ' => ((z = 1 ∧ t ∈ stkL (μ (k + 5)) h) ∨ (z = 0 ∧ ¬ t ∈ stkL (μ (k + 5)) h)) ∧ μ' = μ)) := by
  refine Ct_of (by decide) hI (Nat.le_of_ble_eq_true rfl) (fun E hE hX hR => ?_)
  have hX : OkX V E RX5 cX5_holds 3 2 := hX
  show G V E μ 0 [some (vr V k), some (vi t), none] []
  obtain ⟨ht1, ht2⟩ := ht
  have loop : ∀ (d j : Nat), j + d = h → (∀ i, i < j → μ (k + 5) i ≠ t) → G V E μ 2 [some (vr V k), some (vi t), some (vi (j : Int))] [] := by
    intro d
    induction d with
    | zero =>
      intro j hj hn
      refine g_iload_n hX dX5_holds_2 rfl ?_
      refine g_aload_n hX dX5_holds_3 rfl ?_
      refine gf_X5_15 hX dX5_holds_4 (by first | assumption | exact okd_part (by omega) | exact okd_bed (by omega) | exact okd_pile (by omega) | exact okd_dpile (by omega)) ?_
      rw [hh]
      refine g_icmp_ge (tgt := 27) hX dX5_holds_7 (by decide) ⟨by omega, by omega⟩ ⟨by omega, by omega⟩ (fun _ => ?_) (fun hc => absurd hc (by omega))
      refine g_iconst hX dX5_holds_27 ?_
      refine g_zret hX hR dX5_holds_28 (Or.inl rfl) ⟨_, rfl, Or.inr ⟨rfl, fun hm => ?_⟩, rfl⟩
      obtain ⟨i, h5, h6⟩ := stkL_in _ hm
      exact hn i (by omega) h6
    | succ d ihd =>
      intro j hj hn
      obtain ⟨hb1, hb2⟩ := hr j (by omega)
      refine g_iload_n hX dX5_holds_2 rfl ?_
      refine g_aload_n hX dX5_holds_3 rfl ?_
      refine gf_X5_15 hX dX5_holds_4 (by first | assumption | exact okd_part (by omega) | exact okd_bed (by omega) | exact okd_pile (by omega) | exact okd_dpile (by omega)) ?_
      rw [hh]
      refine g_icmp_ge (tgt := 27) hX dX5_holds_7 (by decide) ⟨by omega, by omega⟩ ⟨by omega, by omega⟩ (fun hc => absurd hc (by omega)) (fun _ => ?_)
      refine g_aload_n hX dX5_holds_10 rfl ?_
      refine g_iload_n hX dX5_holds_11 rfl ?_
      refine g_v1I hX lk_X5_19 dX5_holds_12 (c0 := 5) (by first | assumption | exact okd_part (by omega) | exact okd_bed (by omega) | exact okd_pile (by omega) | exact okd_dpile (by omega)) ⟨_, rfl, rfl⟩ (c_from hI hk hh h4 ⟨by omega, by omega⟩) (by first | decide | omega) (by decide) rfl (Nat.le_of_ble_eq_true rfl) (fun z μ' hp => ?_)
      obtain ⟨rfl, hm⟩ := hp
      rw [hm]
      clear hm μ'
      rw [if_pos (by omega), show ((j : Int)).toNat = j from rfl]
      refine g_iload_n hX dX5_holds_15 rfl ?_
      refine g_icmp_ne (tgt := 21) hX dX5_holds_16 (by decide) ⟨by omega, by omega⟩ ⟨by omega, by omega⟩ (fun h5 => ?_) (fun h5 => ?_)
      · refine st_iinc_3_2 hX dX5_holds_21 (by first | exact ck_i _ | exact ck_r _ _ | exact ck_n | exact ck_0) ?_
        refine g_goto (tgt := 2) hX dX5_holds_24 (by decide) ?_
        refine ihd (j + 1) (by omega) (fun i hi => ?_)
        by_cases e : i = j
        · rw [e]; exact h5
        · exact hn i (by omega)
      · refine g_iconst hX dX5_holds_19 ?_
        refine g_zret hX hR dX5_holds_20 (Or.inr rfl) ⟨_, rfl, Or.inl ⟨rfl, by rw [← h5]; exact stkL_mem h j (by omega)⟩, rfl⟩
  refine g_iconst hX dX5_holds_0 ?_
  refine st_istore_n_3_2 hX dX5_holds_1 (by first | exact ck_i _ | exact ck_r _ _ | exact ck_n | exact ck_0) ?_
  exact loop h 0 (by omega) (fun i hi => absurd hi (by omega))
theorem DgX.row {ν : Mem} {Y : Nat → List Int} {s j : Nat} (h : DgX ν Y) (hs : s < 5) (hj : j < (Y s).length) : ν (53 + s + 5) j ∈ Y s := by
  have := stkL_mem (row := ν (53 + s + 5)) (Y s).length j hj
  rw [(h s hs).2.2.1] at this
  exact this
set_option maxHeartbeats 4000000 in
theorem c_pileWith {lnch : Launch} {V : VX} (hI : InjV V) {μ : Mem} {Y : Nat → List Int} {t : Int} (hD : DgX μ Y) (ht : in32 t) : Ct lnch yX1_pileWith cX1_pileWith 4 (some .int) 3 V [vr V 72, vi t] μ (pI (fun z μ' => ((∃ s : Nat, s < 5 ∧ z = (s : Int) ∧ t ∈ Y s) ∨ (z = -4 ∧ ∀ s : Nat, s < 5 → ¬ t ∈ Y s)) ∧ μ' = μ)) := by
  refine Ct_of (by decide) hI (Nat.le_of_ble_eq_true rfl) (fun E hE hX hR => ?_)
  have hX : OkX V E RX1 cX1_pileWith 4 3 := hX
  show G V E μ 0 [some (vr V 72), some (vi t), none, none] []
  have out : ∀ (e s : Nat) (z3 : Option Value), s + e = 5 → (∀ s' : Nat, s' < s → ¬ t ∈ Y s') → G V E μ 2 [some (vr V 72), some (vi t), some (vi (s : Int)), z3] [] := by
    intro e
    induction e with
    | zero =>
      intro s z3 hs hno
      refine g_iload_n hX dX1_pileWith_2 rfl ?_
      refine g_iconst hX dX1_pileWith_3 ?_
      refine g_icmp_ge (tgt := 33) hX dX1_pileWith_4 (by decide) ⟨by omega, by omega⟩ ⟨by omega, by omega⟩ (fun _ => ?_) (fun hc => absurd hc (by omega))
      refine g_bipush hX dX1_pileWith_33 rfl ?_
      refine g_iret hX hR dX1_pileWith_35 ⟨_, rfl, Or.inr ⟨rfl, fun s' hs' => hno s' (by omega)⟩, rfl⟩
    | succ e ih =>
      intro s z3 hs hno
      obtain ⟨h1, h2, h3, h4⟩ := hD s (by omega)
      have hr : ∀ j, j < (Y s).length → in32 (μ (53 + s + 5) j) := fun j hj => by
        have := h4 _ (hD.row (by omega) hj)
        exact ⟨by omega, by omega⟩
      refine g_iload_n hX dX1_pileWith_2 rfl ?_
      refine g_iconst hX dX1_pileWith_3 ?_
      refine g_icmp_ge (tgt := 33) hX dX1_pileWith_4 (by decide) ⟨by omega, by omega⟩ ⟨by omega, by omega⟩ (fun hc => absurd hc (by omega)) (fun _ => ?_)
      refine g_aload_n hX dX1_pileWith_7 rfl ?_
      refine g_iload_n hX dX1_pileWith_8 rfl ?_
      refine g_v1R hX lk_X1_29 dX1_pileWith_9 (c0 := 1) ok72 ⟨_, rfl, rfl⟩ (c_pileOf hI ⟨by omega, by omega⟩) (by first | decide | omega) (by decide) rfl (Nat.le_of_ble_eq_true rfl) (fun r μ' hp => ?_)
      obtain ⟨rfl, hm⟩ := hp
      rw [hm]
      clear hm μ'
      rw [if_pos (by omega), show ((s : Int)).toNat = s from rfl]
      show G V E μ 12 _ (vr V (53 + s) :: [])
      refine st_astore_n_4_3 hX dX1_pileWith_12 (by first | exact ck_i _ | exact ck_r _ _ | exact ck_n | exact ck_0) ?_
      refine g_aload_n hX dX1_pileWith_13 rfl ?_
      refine g_ifnull hX dX1_pileWith_14 ?_
      refine g_aload_n hX dX1_pileWith_17 rfl ?_
      refine g_iload_n hX dX1_pileWith_18 rfl ?_
      refine g_v1I hX lk_X1_78 dX1_pileWith_19 (c0 := 5) (by first | assumption | exact okd_part (by omega) | exact okd_bed (by omega) | exact okd_pile (by omega) | exact okd_dpile (by omega)) ⟨_, rfl, rfl⟩ (c_holds hI (okd_dpile (by omega)) h2 h1 ht hr) (by first | decide | omega) (by decide) rfl (Nat.le_of_ble_eq_true rfl) (fun z μ' hp => ?_)
      obtain ⟨hz, hm⟩ := hp
      rw [hm]
      clear hm μ'
      rw [h3] at hz
      rcases hz with ⟨rfl, hz⟩ | ⟨rfl, hz⟩
      · refine g_if_eq (tgt := 27) hX dX1_pileWith_22 (by decide) ⟨by omega, by omega⟩ (fun hc => absurd hc (by omega)) (fun _ => ?_)
        refine g_iload_n hX dX1_pileWith_25 rfl ?_
        refine g_iret hX hR dX1_pileWith_26 ⟨_, rfl, Or.inl ⟨s, by omega, rfl, hz⟩, rfl⟩
      · refine g_if_eq (tgt := 27) hX dX1_pileWith_22 (by decide) ⟨by omega, by omega⟩ (fun _ => ?_) (fun hc => absurd hc (by omega))
        refine st_iinc_4_2 hX dX1_pileWith_27 (by first | exact ck_i _ | exact ck_r _ _ | exact ck_n | exact ck_0) ?_
        refine g_goto (tgt := 2) hX dX1_pileWith_30 (by decide) ?_
        refine ih (s + 1) _ (by omega) (fun s' hs' => ?_)
        by_cases e : s' = s
        · rw [e]; exact hz
        · exact hno s' (by omega)
  refine g_iconst hX dX1_pileWith_0 ?_
  refine st_istore_n_4_2 hX dX1_pileWith_1 (by first | exact ck_i _ | exact ck_r _ _ | exact ck_n | exact ck_0) ?_
  exact out 5 0 _ (by omega) (fun s' hs' => absurd hs' (by omega))
def mmK (Y : Nat → List Int) : Nat → Nat
  | 0 => 0
  | s + 1 => mmK Y s + mmL (Y s)
theorem mmK_5 {Y : Nat → List Int} : mmK Y 5 = mm5 Y := by simp only [mmK, mm5]; omega
theorem mmL_le : ∀ l : List Int, mmL l ≤ l.length := by
  intro l
  induction l with
  | nil => exact Nat.le_refl 0
  | cons x r ih => show (if lmin r < x then mmL r + 1 else mmL r) ≤ r.length + 1; split <;> omega
theorem mmK_le {Y : Nat → List Int} (h : ∀ s, s < 5 → (Y s).length ≤ 4) : ∀ s, s ≤ 5 → mmK Y s ≤ 4 * s := by
  intro s
  induction s with
  | zero => intro _; exact Nat.le_refl 0
  | succ s ih =>
    intro hs
    have h1 := ih (by omega)
    have h2 := mmL_le (Y s)
    have h3 := h s (by omega)
    show mmK Y s + mmL (Y s) ≤ _
    omega
set_option maxHeartbeats 4000000 in
theorem c_blockingOn {lnch : Launch} {V : VX} (hI : InjV V) {μ : Mem} {Y : Nat → List Int} {s : Nat} (hD : DgX μ Y) (hs : s < 5) : Ct lnch yX1_blockingOn cX1_blockingOn 5 (some .int) 2 V [vr V (53 + s)] μ (pI (fun z μ' => z = (mmL (Y s) : Int) ∧ μ' = μ)) := by
  refine Ct_of (by decide) hI (Nat.le_of_ble_eq_true rfl) (fun E hE hX hR => ?_)
  have hX : OkX V E RX1 cX1_blockingOn 5 2 := hX
  show G V E μ 0 [some (vr V (53 + s)), none, none, none, none] []
  obtain ⟨h1, h2, h3, h4⟩ := hD s hs
  have row : ∀ (d j : Nat) (z4 : Option Value), j + d = (Y s).length → G V E μ 7 [some (vr V (53 + s)), some (vi (mmL (stkL (μ (53 + s + 5)) j) : Int)), some (vi (lmin (stkL (μ (53 + s + 5)) j))), some (vi (j : Int)), z4] [] := by
    intro d
    induction d with
    | zero =>
      intro j z4 hj
      refine g_aload_n hX dX1_blockingOn_7 rfl ?_
      refine g_ifnull hX dX1_blockingOn_8 ?_
      refine g_iload_n hX dX1_blockingOn_11 rfl ?_
      refine g_aload_n hX dX1_blockingOn_12 rfl ?_
      refine gf_X1_36 hX dX1_blockingOn_13 (by first | assumption | exact okd_part (by omega) | exact okd_bed (by omega) | exact okd_pile (by omega) | exact okd_dpile (by omega)) ?_
      rw [h2]
      refine g_icmp_ge (tgt := 47) hX dX1_blockingOn_16 (by decide) ⟨by omega, by omega⟩ ⟨by omega, by omega⟩ (fun _ => ?_) (fun hc => absurd hc (by omega))
      refine g_iload_n hX dX1_blockingOn_47 rfl ?_
      refine g_iret hX hR dX1_blockingOn_48 ⟨_, rfl, by rw [show j = (Y s).length by omega, h3], rfl⟩
    | succ d ihd =>
      intro j z4 hj
      have hb := h4 _ (hD.row (j := j) hs (by omega))
      have hmn : 0 ≤ lmin (stkL (μ (53 + s + 5)) j) ∧ lmin (stkL (μ (53 + s + 5)) j) ≤ 6 := by
        constructor
        · refine lmin_ge (t := 0) (by decide) _ (fun x hx => ?_)
          obtain ⟨i, h5, h6⟩ := stkL_in _ hx
          have := hD.row (j := i) hs (by omega)
          rw [h6] at this
          exact (h4 x this).1
        · have : ∀ l : List Int, lmin l ≤ 6 := by
            intro l
            induction l with
            | nil => exact Int.le_refl 6
            | cons x r ih => show (if lmin r < x then lmin r else x) ≤ 6; split <;> omega
          exact this _
      have hme := mmL_le (stkL (μ (53 + s + 5)) j)
      rw [stkL_len] at hme
      refine g_aload_n hX dX1_blockingOn_7 rfl ?_
      refine g_ifnull hX dX1_blockingOn_8 ?_
      refine g_iload_n hX dX1_blockingOn_11 rfl ?_
      refine g_aload_n hX dX1_blockingOn_12 rfl ?_
      refine gf_X1_36 hX dX1_blockingOn_13 (by first | assumption | exact okd_part (by omega) | exact okd_bed (by omega) | exact okd_pile (by omega) | exact okd_dpile (by omega)) ?_
      rw [h2]
      refine g_icmp_ge (tgt := 47) hX dX1_blockingOn_16 (by decide) ⟨by omega, by omega⟩ ⟨by omega, by omega⟩ (fun hc => absurd hc (by omega)) (fun _ => ?_)
      refine g_aload_n hX dX1_blockingOn_19 rfl ?_
      refine g_iload_n hX dX1_blockingOn_20 rfl ?_
      refine g_v1I hX lk_X1_39 dX1_blockingOn_21 (c0 := 5) (by first | assumption | exact okd_part (by omega) | exact okd_bed (by omega) | exact okd_pile (by omega) | exact okd_dpile (by omega)) ⟨_, rfl, rfl⟩ (c_from hI (okd_dpile (by omega)) h2 h1 ⟨by omega, by omega⟩) (by first | decide | omega) (by decide) rfl (Nat.le_of_ble_eq_true rfl) (fun z μ' hp => ?_)
      obtain ⟨rfl, hm⟩ := hp
      rw [hm]
      clear hm μ'
      rw [if_pos (by omega), show ((j : Int)).toNat = j from rfl]
      refine st_istore_5_4 hX dX1_blockingOn_24 (by first | exact ck_i _ | exact ck_r _ _ | exact ck_n | exact ck_0) ?_
      refine g_iload hX dX1_blockingOn_26 rfl ?_
      refine g_iload_n hX dX1_blockingOn_28 rfl ?_
      refine g_icmp_le (tgt := 38) hX dX1_blockingOn_29 (by decide) ⟨by omega, by omega⟩ ⟨by omega, by omega⟩ (fun h5 => ?_) (fun h5 => ?_)
      · refine g_iload hX dX1_blockingOn_38 rfl ?_
        refine st_istore_n_5_2 hX dX1_blockingOn_40 (by first | exact ck_i _ | exact ck_r _ _ | exact ck_n | exact ck_0) ?_
        refine st_iinc_5_3 hX dX1_blockingOn_41 (by first | exact ck_i _ | exact ck_r _ _ | exact ck_n | exact ck_0) ?_
        refine g_goto (tgt := 7) hX dX1_blockingOn_44 (by decide) ?_
        have := ihd (j + 1) (some (vi (μ (53 + s + 5) j))) (by omega)
        rw [show mmL (stkL (μ (53 + s + 5)) (j + 1)) = mmL (stkL (μ (53 + s + 5)) j) by
          show (if lmin (stkL (μ (53 + s + 5)) j) < μ (53 + s + 5) j then _ else _) = _
          rw [if_neg (by omega)], show lmin (stkL (μ (53 + s + 5)) (j + 1)) = μ (53 + s + 5) j by
          show (if lmin (stkL (μ (53 + s + 5)) j) < μ (53 + s + 5) j then _ else _) = _
          rw [if_neg (by omega)]] at this
        exact this
      · refine st_iinc_5_1 hX dX1_blockingOn_32 (by first | exact ck_i _ | exact ck_r _ _ | exact ck_n | exact ck_0) ?_
        refine g_goto (tgt := 41) hX dX1_blockingOn_35 (by decide) ?_
        refine st_iinc_5_3 hX dX1_blockingOn_41 (by first | exact ck_i _ | exact ck_r _ _ | exact ck_n | exact ck_0) ?_
        refine g_goto (tgt := 7) hX dX1_blockingOn_44 (by decide) ?_
        have := ihd (j + 1) (some (vi (μ (53 + s + 5) j))) (by omega)
        rw [show mmL (stkL (μ (53 + s + 5)) (j + 1)) = mmL (stkL (μ (53 + s + 5)) j) + 1 by
          show (if lmin (stkL (μ (53 + s + 5)) j) < μ (53 + s + 5) j then _ else _) = _
          rw [if_pos (by omega)], show lmin (stkL (μ (53 + s + 5)) (j + 1)) = lmin (stkL (μ (53 + s + 5)) j) by
          show (if lmin (stkL (μ (53 + s + 5)) j) < μ (53 + s + 5) j then _ else _) = _
          rw [if_pos (by omega)]] at this
        exact this
  refine g_iconst hX dX1_blockingOn_0 ?_
  refine st_istore_n_5_1 hX dX1_blockingOn_1 (by first | exact ck_i _ | exact ck_r _ _ | exact ck_n | exact ck_0) ?_
  refine g_bipush hX dX1_blockingOn_2 rfl ?_
  refine st_istore_n_5_2 hX dX1_blockingOn_4 (by first | exact ck_i _ | exact ck_r _ _ | exact ck_n | exact ck_0) ?_
  refine g_iconst hX dX1_blockingOn_5 ?_
  refine st_istore_n_5_3 hX dX1_blockingOn_6 (by first | exact ck_i _ | exact ck_r _ _ | exact ck_n | exact ck_0) ?_
  exact row (Y s).length 0 _ (by omega)
set_option maxHeartbeats 4000000 in
theorem c_mustMove {lnch : Launch} {V : VX} (hI : InjV V) {μ : Mem} {Y : Nat → List Int} (hD : DgX μ Y) : Ct lnch yX1_mustMove cX1_mustMove 3 (some .int) 3 V [vr V 72] μ (pI (fun z μ' => z = (mm5 Y : Int) ∧ μ' = μ)) := by
  refine Ct_of (by decide) hI (Nat.le_of_ble_eq_true rfl) (fun E hE hX hR => ?_)
  have hX : OkX V E RX1 cX1_mustMove 3 3 := hX
  show G V E μ 0 [some (vr V 72), none, none] []
  have out : ∀ (e s : Nat), s + e = 5 → G V E μ 4 [some (vr V 72), some (vi (mmK Y s : Int)), some (vi (s : Int))] [] := by
    intro e
    induction e with
    | zero =>
      intro s hs
      refine g_iload_n hX dX1_mustMove_4 rfl ?_
      refine g_iconst hX dX1_mustMove_5 ?_
      refine g_icmp_ge (tgt := 26) hX dX1_mustMove_6 (by decide) ⟨by omega, by omega⟩ ⟨by omega, by omega⟩ (fun _ => ?_) (fun hc => absurd hc (by omega))
      refine g_iload_n hX dX1_mustMove_26 rfl ?_
      refine g_iret hX hR dX1_mustMove_27 ⟨_, rfl, by rw [show s = 5 by omega, mmK_5], rfl⟩
    | succ e ih =>
      intro s hs
      refine g_iload_n hX dX1_mustMove_4 rfl ?_
      refine g_iconst hX dX1_mustMove_5 ?_
      refine g_icmp_ge (tgt := 26) hX dX1_mustMove_6 (by decide) ⟨by omega, by omega⟩ ⟨by omega, by omega⟩ (fun hc => absurd hc (by omega)) (fun _ => ?_)
      refine g_iload_n hX dX1_mustMove_9 rfl ?_
      refine g_aload_n hX dX1_mustMove_10 rfl ?_
      refine g_iload_n hX dX1_mustMove_11 rfl ?_
      refine g_v1R hX lk_X1_29 dX1_mustMove_12 (c0 := 1) ok72 ⟨_, rfl, rfl⟩ (c_pileOf hI ⟨by omega, by omega⟩) (by first | decide | omega) (by decide) rfl (Nat.le_of_ble_eq_true rfl) (fun r μ' hp => ?_)
      obtain ⟨rfl, hm⟩ := hp
      rw [hm]
      clear hm μ'
      rw [if_pos (by omega), show ((s : Int)).toNat = s from rfl]
      show G V E μ 15 _ (vr V (53 + s) :: vi (mmK Y s : Int) :: [])
      refine g_s1I hX lk_X1_81 dX1_mustMove_15 (c_blockingOn hI hD (by omega)) (by decide) (by decide) rfl (Nat.le_of_ble_eq_true rfl) (fun z μ' hp => ?_)
      obtain ⟨rfl, hm⟩ := hp
      rw [hm]
      clear hm μ'
      refine g_iadd hX dX1_mustMove_18 ?_
      refine st_istore_n_3_1 hX dX1_mustMove_19 (by first | exact ck_i _ | exact ck_r _ _ | exact ck_n | exact ck_0) ?_
      refine st_iinc_3_2 hX dX1_mustMove_20 (by first | exact ck_i _ | exact ck_r _ _ | exact ck_n | exact ck_0) ?_
      refine g_goto (tgt := 4) hX dX1_mustMove_23 (by decide) ?_
      exact ih (s + 1) (by omega)
  refine g_iconst hX dX1_mustMove_0 ?_
  refine st_istore_n_3_1 hX dX1_mustMove_1 (by first | exact ck_i _ | exact ck_r _ _ | exact ck_n | exact ck_0) ?_
  refine g_iconst hX dX1_mustMove_2 ?_
  refine st_istore_n_3_2 hX dX1_mustMove_3 (by first | exact ck_i _ | exact ck_r _ _ | exact ck_n | exact ck_0) ?_
  exact out 5 0 (by omega)
