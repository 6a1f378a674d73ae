/-! what always holds goes on holding -/
theorem cntW_cg2 {m m' : Mem} {w : Int} : ∀ (N d : Nat), (∀ q, q < N → (m' 5 q = w ↔ m 5 q = w)) → (∀ q, N ≤ q → q < N + d → m' 5 q ≠ w) → cntW m' w (N + d) = cntW m w N := by
  intro N d
  induction d with
  | zero =>
    intro h _
    have : ∀ K, K ≤ N → cntW m' w K = cntW m w K := by
      intro K
      induction K with
      | zero => intro _; rfl
      | succ K ih =>
        intro hK
        show cntW m' w K + (if m' 5 K = w then 1 else 0) = cntW m w K + (if m 5 K = w then 1 else 0)
        rw [ih (by omega)]
        by_cases e : m 5 K = w
        · rw [if_pos e, if_pos ((h K (by omega)).mpr e)]
        · rw [if_neg e, if_neg (fun q => e ((h K (by omega)).mp q))]
    exact this N (Nat.le_refl N)
  | succ d ih =>
    intro h1 h2
    show cntW m' w (N + d) + (if m' 5 (N + d) = w then 1 else 0) = _
    rw [ih h1 (fun q a b => h2 q a (by omega)), if_neg (h2 (N + d) (by omega) (by omega))]
    rfl
theorem cntW_set {m : Mem} {w v : Int} {p : Nat} : ∀ N, p < N → cntW (mset m 5 p v) w N + (if m 5 p = w then 1 else 0) = cntW m w N + (if v = w then 1 else 0) := by
  intro N
  induction N with
  | zero => intro h; omega
  | succ N ih =>
    intro h
    show cntW (mset m 5 p v) w N + (if mset m 5 p v 5 N = w then 1 else 0) + _ = cntW m w N + (if m 5 N = w then 1 else 0) + _
    by_cases e : p = N
    · subst e
      rw [mset_same]
      have : cntW (mset m 5 p v) w p = cntW m w p := cntW_cg2 p 0 (fun q hq => by rw [mset_ne (Or.inr (by omega))]) (fun q a b => absurd a (by omega))
      rw [this]
      omega
    · rw [mset_ne (Or.inr (fun q => e q.symm))]
      have := ih (by omega)
      omega
theorem IMb_cg {m m' : Mem} (h : IMb m) (h14 : m' 0 14 = m 0 14) (h00 : m 0 0 ≤ m' 0 0) (hr : ∀ k, 9 ≤ k → k ≤ 12 → m' k = m k) (hA : ∀ q : Nat, (q : Int) < m 0 0 → m 5 q = 1 → m' 5 q = 1 ∧ m' 6 q = m 6 q) (hB : ∀ q : Nat, (q : Int) < m' 0 0 → m' 5 q = 1 → (q : Int) < m 0 0 ∧ m 5 q = 1 ∧ m' 6 q = m 6 q) : IMb m' := fun b hb => by
  obtain ⟨h1, h2, h3, h4, h5, h6, h7⟩ := h b hb
  rw [hr 9 (by decide) (by decide), hr 10 (by decide) (by decide), hr 11 (by decide) (by decide), hr 12 (by decide) (by decide), h14]
  refine ⟨h1, h2, h3, h4, fun k hk => ?_, h6, fun p hp h8 h9 => ?_⟩
  · obtain ⟨a1, a2, a3, a4⟩ := h5 k hk
    obtain ⟨b1, b2⟩ := hA (m 10 (40 * b + k)).toNat (by omega) a3
    exact ⟨a1, by omega, b1, by rw [b2]; exact a4⟩
  · obtain ⟨b1, b2, b3⟩ := hB p hp h8
    exact h7 p b1 b2 (by rw [← b3]; exact h9)
theorem IMl_cg {m m' : Mem} (h : IMl m) (h17 : m' 0 17 = m 0 17) (h00 : m 0 0 ≤ m' 0 0) (h15 : ∀ k : Nat, (k : Int) < m 0 17 → m' 15 k = m 15 k) (hA : ∀ q : Nat, (q : Int) < m 0 0 → m 5 q = 6 → m' 5 q = 6 ∧ m' 3 q = m 3 q) : IMl m' := by
  obtain ⟨h1, h2, h3, h4, h5⟩ := h
  have e : ∀ k : Nat, k < (m 0 17).toNat → m' 15 k = m 15 k ∧ m' 3 (m 15 k).toNat = m 3 (m 15 k).toNat := fun k hk => by
    obtain ⟨a1, a2, a3⟩ := h2 k (by omega)
    exact ⟨h15 k (by omega), (hA _ (by omega) a3).2⟩
  refine ⟨by rw [h17]; exact h1, fun k hk => ?_, by rw [h17, heavyK_cg e]; exact h3, by rw [h17, frontK_cg e]; exact h4, by rw [h17, rearK_cg e]; exact h5⟩
  rw [h17] at hk
  obtain ⟨a1, a2, a3⟩ := h2 k hk
  rw [h15 k hk]
  exact ⟨a1, by omega, (hA _ (by omega) a3).1⟩
theorem IMy_cg {m m' : Mem} (h : IMy m) (hn : 0 ≤ m 0 0) (h00 : m 0 0 ≤ m' 0 0) (hr : m' 13 = m 13 ∧ m' 14 = m 14) (hA : ∀ q : Nat, (q : Int) < m 0 0 → m 5 q = 3 → m' 5 q = 3 ∧ m' 6 q = m 6 q) (hB : ∀ q : Nat, (q : Int) < m' 0 0 → m' 5 q = 3 → (q : Int) < m 0 0 ∧ m 5 q = 3 ∧ m' 6 q = m 6 q) : IMy m' := by
  obtain ⟨h1, h2, h3⟩ := h
  unfold IMy
  rw [hr.1, hr.2]
  refine ⟨fun s hs => ?_, fun p hp h4 => ?_, ?_⟩
  · obtain ⟨a1, a2, a3⟩ := h1 s hs
    refine ⟨a1, fun k hk => ?_, a3⟩
    obtain ⟨b1, b2, b3, b4⟩ := a2 k hk
    obtain ⟨c1, c2⟩ := hA _ (by omega) b3
    exact ⟨b1, by omega, c1, by rw [c2]; exact b4⟩
  · obtain ⟨b1, b2, b3⟩ := hB p hp h4
    rw [b3]
    exact h2 p b1 b2
  · rw [← h3]
    have := cntW_cg2 (m := m) (m' := m') (w := 3) (m 0 0).toNat ((m' 0 0).toNat - (m 0 0).toNat) (fun q hq => ⟨fun a => (hB q (by omega) a).2.1, fun a => (hA q (by omega) a).1⟩) (fun q a b c => by have := (hB q (by omega) c).1; omega)
    rw [show (m 0 0).toNat + ((m' 0 0).toNat - (m 0 0).toNat) = (m' 0 0).toNat by omega] at this
    rw [this]
theorem IM_up {c : Nat} {m : Mem} (h : IM c m) : IM (c + 1) m := by
  obtain ⟨⟨p1, p2, p3⟩, ⟨s1, s2, s3, s4⟩, hb, hy, hl⟩ := h
  exact ⟨⟨p1, fun i hi => by have := p2 i hi; exact ⟨this.1, this.2.1, this.2.2.1, this.2.2.2.1, this.2.2.2.2.1, by omega, this.2.2.2.2.2.2⟩, p3⟩, ⟨s1, s2, by omega, s4⟩, hb, hy, hl⟩
theorem IM_scr {c : Nat} {m m' : Mem} (h : IM c m) (h1 : ∀ k, 1 ≤ k → k ≤ 15 → m' k = m k) (h2 : ∀ j, j ≠ 21 → j ≠ 26 → m' 0 j = m 0 j) (h3 : m' 17 0 = m 17 0) : IM c m' := by
  obtain ⟨⟨p1, p2, p3⟩, ⟨s1, s2, s3, s4⟩, hb, hy, hl⟩ := h
  have e0 := h2 0 (by decide) (by decide)
  refine ⟨⟨by rw [e0]; exact p1, fun i hi => ?_, fun i hi h40 => ?_⟩, ⟨by rw [h2 14 (by decide) (by decide)]; exact s1, by rw [h2 13 (by decide) (by decide)]; exact s2, by rw [h2 19 (by decide) (by decide)]; exact s3, by rw [h3]; exact s4⟩, ?_, ?_, ?_⟩
  · rw [h1 1 (by decide) (by decide), h1 2 (by decide) (by decide), h1 3 (by decide) (by decide), h1 4 (by decide) (by decide), h1 5 (by decide) (by decide), h1 6 (by decide) (by decide), h1 8 (by decide) (by decide)]
    exact p2 i (by omega)
  · rw [h1 7 (by decide) (by decide), h1 8 (by decide) (by decide)]
    exact p3 i (by omega) h40
  · refine IMb_cg hb (h2 14 (by decide) (by decide)) (by omega) (fun k a b => h1 k (by omega) (by omega)) (fun q _ a => ?_) (fun q a b => ?_)
    · rw [h1 5 (by decide) (by decide), h1 6 (by decide) (by decide)]; exact ⟨a, rfl⟩
    · rw [h1 5 (by decide) (by decide)] at b
      rw [h1 6 (by decide) (by decide)]
      exact ⟨by omega, b, rfl⟩
  · refine IMy_cg hy p1.1 (by omega) ⟨h1 13 (by decide) (by decide), h1 14 (by decide) (by decide)⟩ (fun q _ a => ?_) (fun q a b => ?_)
    · rw [h1 5 (by decide) (by decide), h1 6 (by decide) (by decide)]; exact ⟨a, rfl⟩
    · rw [h1 5 (by decide) (by decide)] at b
      rw [h1 6 (by decide) (by decide)]
      exact ⟨by omega, b, rfl⟩
  · refine IMl_cg hl (h2 17 (by decide) (by decide)) (by omega) (fun k _ => by rw [h1 15 (by decide) (by decide)]) (fun q _ a => ?_)
    rw [h1 5 (by decide) (by decide), h1 3 (by decide) (by decide)]
    exact ⟨a, rfl⟩
theorem R_scrM {ν m m' : Mem} (h : RelXM ν m) (h1 : ∀ k, 1 ≤ k → k ≤ 15 → m' k = m k) (h2 : ∀ j, j ≠ 21 → j ≠ 26 → m' 0 j = m 0 j) : RelXM ν m' := by
  obtain ⟨hA, hB, hC, hD, hE⟩ := h
  have e0 := h2 0 (by decide) (by decide)
  have e17 := h2 17 (by decide) (by decide)
  have hk : ∀ K k, k < K → m' 15 k = m 15 k ∧ m' 3 (m 15 k).toNat = m 3 (m 15 k).toNat := fun K k _ => by
    rw [h1 15 (by decide) (by decide), h1 3 (by decide) (by decide)]; exact ⟨rfl, rfl⟩
  refine ⟨by rw [e0, h2 20 (by decide) (by decide), h2 19 (by decide) (by decide), h2 14 (by decide) (by decide), h2 13 (by decide) (by decide)]; exact hA, fun i j hi hj => ?_, fun b hb => ?_, fun s hs => ?_, ?_⟩
  · rw [hB i j hi hj]
    unfold pvF
    rw [e0, h1 (1 + j) (by omega) (by omega)]
  · rw [bedlen_cg (m := m) (m' := m') (by rw [h1 9 (by decide) (by decide)]) (fun k _ => by rw [h1 10 (by decide) (by decide), h1 1 (by decide) (by decide)]; exact ⟨rfl, rfl⟩), h1 9 (by decide) (by decide), h1 11 (by decide) (by decide), h1 12 (by decide) (by decide)]
    exact hC b hb
  · rw [h1 13 (by decide) (by decide), h1 14 (by decide) (by decide)]
    exact hD s hs
  · rw [e17, heavyK_cg (hk _), frontK_cg (hk _), rearK_cg (hk _), h1 15 (by decide) (by decide)]
    exact hE
theorem P_new {c N : Nat} {m : Mem} {l p w nd : Int} (h : IM c m) (hN : m 0 0 = (N : Int)) (h40 : N < 40) (hz : areM l p w) (hnd : 0 ≤ nd ∧ nd ≤ 1000) : IM c (newM m N l p w nd) := by
  obtain ⟨⟨p1, p2, p3⟩, ⟨s1, s2, s3, s4⟩, hb, hy, hl⟩ := h
  obtain ⟨z1, z2, z3, z4, z5, z6⟩ := hz
  have e0 : newM m N l p w nd 0 0 = (N : Int) + 1 := by unfold newM; rw [mset_same]
  have eo : ∀ k q, k ≠ 0 → q ≠ N → newM m N l p w nd k q = m k q := fun k q h1 h2 => by
    unfold newM
    rw [mset_ne (Or.inl h1), mset_ne (Or.inr h2), mset_ne (Or.inr h2), mset_ne (Or.inr h2), mset_ne (Or.inr h2), mset_ne (Or.inr h2), mset_ne (Or.inr h2)]
  have er : ∀ k, k ≠ 0 → 7 ≤ k → newM m N l p w nd k = m k := fun k h1 h2 => by
    unfold newM
    rw [mset_cell (by omega), mset_cell (by omega), mset_cell (by omega), mset_cell (by omega), mset_cell (by omega), mset_cell (by omega), mset_cell (by omega)]
  have e0j : ∀ j, j ≠ 0 → newM m N l p w nd 0 j = m 0 j := fun j h1 => by
    unfold newM
    rw [mset_ne (Or.inr h1), mset_cell (by omega), mset_cell (by omega), mset_cell (by omega), mset_cell (by omega), mset_cell (by omega), mset_cell (by omega)]
  have e5 : newM m N l p w nd 5 N = 0 := by
    unfold newM
    rw [mset_ne (Or.inl (by decide)), mset_ne (Or.inl (by decide)), mset_same]
  have hA : ∀ (v : Int) (q : Nat), (q : Int) < m 0 0 → m 5 q = v → newM m N l p w nd 5 q = v ∧ newM m N l p w nd 6 q = m 6 q := fun v q hq hv => by
    rw [eo 5 q (by decide) (by omega), eo 6 q (by decide) (by omega)]; exact ⟨hv, rfl⟩
  have hB : ∀ (v : Int), v ≠ 0 → ∀ q : Nat, (q : Int) < newM m N l p w nd 0 0 → newM m N l p w nd 5 q = v → (q : Int) < m 0 0 ∧ m 5 q = v ∧ newM m N l p w nd 6 q = m 6 q := fun v hv q hq hw => by
    by_cases e : q = N
    · rw [e, e5] at hw; exact absurd hw.symm hv
    · rw [eo 5 q (by decide) e] at hw
      exact ⟨by omega, hw, eo 6 q (by decide) e⟩
  refine ⟨⟨by rw [e0]; omega, fun i hi => ?_, fun i hi hi40 => ?_⟩, ⟨by rw [e0j 14 (by decide)]; exact s1, by rw [e0j 13 (by decide)]; exact s2, by rw [e0j 19 (by decide)]; exact s3, by rw [er 17 (by decide) (by decide)]; exact s4⟩, ?_, ?_, ?_⟩
  · by_cases e : i = N
    · have h8 := (p3 i (by omega) (by omega)).2
      rw [er 8 (by decide) (by decide)]
      subst e
      unfold newM
      simp (disch := omega) only [mset_ne, mset_same]
      exact ⟨by omega, by omega, by omega, by omega, by omega, by omega, Or.inl h8⟩
    · rw [eo 1 i (by decide) e, eo 2 i (by decide) e, eo 3 i (by decide) e, eo 4 i (by decide) e, eo 5 i (by decide) e, eo 6 i (by decide) e, eo 8 i (by decide) e]
      exact p2 i (by omega)
  · rw [er 7 (by decide) (by decide), er 8 (by decide) (by decide)]
    exact p3 i (by omega) hi40
  · exact IMb_cg hb (e0j 14 (by decide)) (by omega) (fun k a b => er k (by omega) (by omega)) (hA 1) (hB 1 (by decide))
  · exact IMy_cg hy p1.1 (by omega) ⟨er 13 (by decide) (by decide), er 14 (by decide) (by decide)⟩ (hA 3) (hB 3 (by decide))
  · exact IMl_cg hl (e0j 17 (by decide)) (by omega) (fun k _ => by rw [er 15 (by decide) (by decide)]) (fun q hq hv => ⟨(hA 6 q hq hv).1, eo 3 q (by decide) (by omega)⟩)
theorem P_part {c : Nat} {m : Mem} {a b d : Int} (h : IM c m) : IM (c + 1) (spPart m a b d).2 := by
  have p1 := h.1.1
  unfold spPart
  by_cases hz : areM a b d
  · rw [if_pos hz]
    by_cases h40 : m 0 0 < 40
    · rw [if_pos h40]
      exact IM_up (P_new h (by omega) (by omega) hz ⟨by decide, by decide⟩)
    · rw [if_neg h40]; exact IM_up h
  · rw [if_neg hz]; exact IM_up h
theorem P_gets {c p : Nat} {m : Mem} {l pl w : Int} (h : IM c m) (hp : (p : Int) < m 0 0) (hz : areM l pl w) (h6 : m 5 p ≠ 6) : IM c (getsM m p l pl w) := by
  obtain ⟨⟨p1, p2, p3⟩, ⟨s1, s2, s3, s4⟩, hb, hy, hl⟩ := h
  obtain ⟨z1, z2, z3, z4, z5, z6⟩ := hz
  have er : ∀ k, k ≠ 1 → k ≠ 2 → k ≠ 3 → getsM m p l pl w k = m k := fun k h1 h2 h3 => by
    unfold getsM
    rw [mset_cell (by omega), mset_cell (by omega), mset_cell (by omega)]
  have eo : ∀ k q, q ≠ p → getsM m p l pl w k q = m k q := fun k q h1 => by
    unfold getsM
    rw [mset_ne (Or.inr h1), mset_ne (Or.inr h1), mset_ne (Or.inr h1)]
  refine ⟨⟨by rw [er 0 (by decide) (by decide) (by decide)]; exact p1, fun i hi => ?_, fun i hi hi40 => ?_⟩, ?_, ?_, ?_, ?_⟩
  · rw [er 0 (by decide) (by decide) (by decide)] at hi
    have := p2 i hi
    rw [er 4 (by decide) (by decide) (by decide), er 5 (by decide) (by decide) (by decide), er 6 (by decide) (by decide) (by decide), er 8 (by decide) (by decide) (by decide)]
    by_cases e : i = p
    · subst e
      unfold getsM
      simp (disch := omega) only [mset_ne, mset_same]
      exact ⟨by omega, by omega, by omega, this.2.2.2⟩
    · rw [eo 1 i e, eo 2 i e, eo 3 i e]; exact this
  · rw [er 0 (by decide) (by decide) (by decide)] at hi
    rw [er 7 (by decide) (by decide) (by decide), er 8 (by decide) (by decide) (by decide)]
    exact p3 i hi hi40
  · unfold IMs
    rw [er 0 (by decide) (by decide) (by decide), er 17 (by decide) (by decide) (by decide)]
    exact ⟨s1, s2, s3, s4⟩
  · exact IMb_cg hb (by rw [er 0 (by decide) (by decide) (by decide)]) (by rw [er 0 (by decide) (by decide) (by decide)]; exact Int.le_refl _) (fun k a b => er k (by omega) (by omega) (by omega)) (fun q _ hv => by rw [er 5 (by decide) (by decide) (by decide), er 6 (by decide) (by decide) (by decide)]; exact ⟨hv, rfl⟩) (fun q hq hv => by rw [er 5 (by decide) (by decide) (by decide)] at hv; rw [er 0 (by decide) (by decide) (by decide)] at hq; rw [er 6 (by decide) (by decide) (by decide)]; exact ⟨hq, hv, rfl⟩)
  · exact IMy_cg hy p1.1 (by rw [er 0 (by decide) (by decide) (by decide)]; exact Int.le_refl _) ⟨er 13 (by decide) (by decide) (by decide), er 14 (by decide) (by decide) (by decide)⟩ (fun q _ hv => by rw [er 5 (by decide) (by decide) (by decide), er 6 (by decide) (by decide) (by decide)]; exact ⟨hv, rfl⟩) (fun q hq hv => by rw [er 5 (by decide) (by decide) (by decide)] at hv; rw [er 0 (by decide) (by decide) (by decide)] at hq; rw [er 6 (by decide) (by decide) (by decide)]; exact ⟨hq, hv, rfl⟩)
  · refine IMl_cg hl (by rw [er 0 (by decide) (by decide) (by decide)]) (by rw [er 0 (by decide) (by decide) (by decide)]; exact Int.le_refl _) (fun k _ => by rw [er 15 (by decide) (by decide) (by decide)]) (fun q _ hv => ?_)
    rw [er 5 (by decide) (by decide) (by decide)]
    exact ⟨hv, eo 3 q (fun e => h6 (by rw [← e]; exact hv))⟩
