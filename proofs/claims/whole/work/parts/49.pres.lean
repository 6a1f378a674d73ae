/-! what always holds goes on holding: need, warmth, hours, stack, go, the stacks -/
theorem P_need {c : Nat} {m : Mem} {p n : Int} (h : IM c m) : IM (c + 1) (spNeed m p n).2 := by
  unfold spNeed
  by_cases hz : (0 ≤ p ∧ p < m 0 0) ∧ 0 ≤ n ∧ n ≤ 1000
  rotate_left
  · rw [if_neg hz]; exact IM_up h
  rw [if_pos hz]
  refine IM_up ?_
  obtain ⟨⟨p1, p2, p3⟩, s, hb, hy, hl⟩ := h
  show IM c (mset m 4 p.toNat n)
  have er : ∀ k, k ≠ 4 → mset m 4 p.toNat n k = m k := fun k h1 => mset_cell (fun q => h1 q.symm)
  refine ⟨⟨by rw [er 0 (by decide)]; exact p1, fun i hi => ?_, fun i hi hi40 => ?_⟩, ?_, ?_, ?_, ?_⟩
  · rw [er 0 (by decide)] at hi
    have := p2 i hi
    rw [er 1 (by decide), er 2 (by decide), er 3 (by decide), er 5 (by decide), er 6 (by decide), er 8 (by decide)]
    refine ⟨this.1, this.2.1, this.2.2.1, ?_, this.2.2.2.2⟩
    by_cases e : i = p.toNat
    · rw [e, mset_same]; omega
    · rw [mset_ne (Or.inr e)]; exact this.2.2.2.1
  · rw [er 0 (by decide)] at hi
    rw [er 7 (by decide), er 8 (by decide)]
    exact p3 i hi hi40
  · unfold IMs; rw [er 0 (by decide), er 17 (by decide)]; exact s
  · unfold IMb; rw [er 0 (by decide), er 9 (by decide), er 10 (by decide), er 11 (by decide), er 12 (by decide), er 5 (by decide), er 6 (by decide)]; exact hb
  · exact IMy_cg hy p1.1 (by rw [er 0 (by decide)]; exact Int.le_refl _) ⟨er 13 (by decide), er 14 (by decide)⟩ (fun q _ a => by rw [er 5 (by decide), er 6 (by decide)]; exact ⟨a, rfl⟩) (fun q a b => by rw [er 5 (by decide)] at b; rw [er 0 (by decide)] at a; rw [er 6 (by decide)]; exact ⟨a, b, rfl⟩)
  · exact IMl_cg hl (by rw [er 0 (by decide)]) (by rw [er 0 (by decide)]; exact Int.le_refl _) (fun k _ => by rw [er 15 (by decide)]) (fun q _ a => by rw [er 5 (by decide), er 3 (by decide)]; exact ⟨a, rfl⟩)
/-- only cells of row 0 but the part count and the load change, and rows 11 -/
theorem P_row0 {c : Nat} {m m' : Mem} (h : IM c m) (h0 : m' 0 0 = m 0 0) (h17 : m' 0 17 = m 0 17) (hr : ∀ k, k ≠ 0 → k ≠ 11 → m' k = m k) (hs : IMs c m') (hb : IMb m') : IM c m' := by
  obtain ⟨⟨p1, p2, p3⟩, s, -, hy, hl⟩ := h
  refine ⟨⟨by rw [h0]; exact p1, fun i hi => ?_, fun i hi hi40 => ?_⟩, hs, hb, ?_, ?_⟩
  · rw [h0] at hi
    rw [hr 1 (by decide) (by decide), hr 2 (by decide) (by decide), hr 3 (by decide) (by decide), hr 4 (by decide) (by decide), hr 5 (by decide) (by decide), hr 6 (by decide) (by decide), hr 8 (by decide) (by decide)]
    exact p2 i hi
  · rw [h0] at hi
    rw [hr 7 (by decide) (by decide), hr 8 (by decide) (by decide)]
    exact p3 i hi hi40
  · exact IMy_cg hy p1.1 (by rw [h0]; exact Int.le_refl _) ⟨hr 13 (by decide) (by decide), hr 14 (by decide) (by decide)⟩ (fun q _ a => by rw [hr 5 (by decide) (by decide), hr 6 (by decide) (by decide)]; exact ⟨a, rfl⟩) (fun q a b => by rw [hr 5 (by decide) (by decide)] at b; rw [h0] at a; rw [hr 6 (by decide) (by decide)]; exact ⟨a, b, rfl⟩)
  · exact IMl_cg hl h17 (by rw [h0]; exact Int.le_refl _) (fun k _ => by rw [hr 15 (by decide) (by decide)]) (fun q _ a => by rw [hr 5 (by decide) (by decide), hr 3 (by decide) (by decide)]; exact ⟨a, rfl⟩)
theorem P_warm {c : Nat} {m : Mem} {w : Int} (h : IM c m) : IM (c + 1) (spWarm m w).2 := by
  unfold spWarm
  by_cases hz : -20 ≤ w ∧ w ≤ 60
  rotate_left
  · rw [if_neg hz]; exact IM_up h
  rw [if_pos hz]
  refine IM_up ?_
  have h' := h
  obtain ⟨p, ⟨s1, s2, s3, s4⟩, hb, hy, hl⟩ := h
  show IM c (mset m 0 13 w)
  refine P_row0 h' (mset_ne (Or.inr (by decide))) (mset_ne (Or.inr (by decide))) (fun k h1 _ => mset_cell (fun q => h1 q.symm)) ⟨by rw [mset_ne (Or.inr (by decide))]; exact s1, by rw [mset_same]; exact hz, by rw [mset_ne (Or.inr (by decide))]; exact s3, by rw [mset_cell (by decide)]; exact s4⟩ ?_
  exact IMb_cg hb (mset_ne (Or.inr (by decide))) (by rw [mset_ne (Or.inr (by decide))]; exact Int.le_refl _) (fun k a b => mset_cell (by omega)) (fun q _ a => by rw [mset_cell (by decide), mset_cell (by decide)]; exact ⟨a, rfl⟩) (fun q a b => by rw [mset_cell (by decide)] at b; rw [mset_ne (Or.inr (by decide))] at a; rw [mset_cell (by decide)]; exact ⟨a, b, rfl⟩)
theorem P_hours {c : Nat} {m : Mem} {n : Int} (h : IM c m) : IM (c + 1) (spHours m n).2 := by
  unfold spHours
  by_cases hz : 1 ≤ n ∧ n ≤ 200
  rotate_left
  · rw [if_neg hz]; exact IM_up h
  rw [if_pos hz]
  by_cases h5 : m 0 14 + n ≤ 100000
  rotate_left
  · rw [if_neg h5]; exact IM_up h
  rw [if_pos h5]
  refine IM_up ?_
  have h' := h
  obtain ⟨p, ⟨s1, s2, s3, s4⟩, hb, hy, hl⟩ := h
  show IM c (hourM m n)
  have er : ∀ k, k ≠ 0 → k ≠ 11 → hourM m n k = m k := fun k h1 h2 => by
    unfold hourM
    rw [mset_cell (fun q => h1 q.symm), mset_cell (fun q => h2 q.symm), mset_cell (fun q => h2 q.symm), mset_cell (fun q => h2 q.symm)]
  have e0 : ∀ j, j ≠ 14 → hourM m n 0 j = m 0 j := fun j h1 => by
    unfold hourM
    rw [mset_ne (Or.inr h1), mset_cell (by decide), mset_cell (by decide), mset_cell (by decide)]
  have e14 : hourM m n 0 14 = m 0 14 + n := by unfold hourM; rw [mset_same]
  have e11 : ∀ b, b < 3 → hourM m n 11 b = ripeV m n b := fun b hb3 => by
    unfold hourM
    have : b = 0 ∨ b = 1 ∨ b = 2 := by omega
    rcases this with rfl | rfl | rfl <;> simp (disch := omega) only [mset_ne, mset_same]
  refine P_row0 h' (e0 0 (by decide)) (e0 17 (by decide)) er ⟨by rw [e14]; omega, by rw [e0 13 (by decide)]; exact s2, by rw [e0 19 (by decide)]; exact s3, by rw [er 17 (by decide) (by decide)]; exact s4⟩ (fun b hb3 => ?_)
  obtain ⟨h1, h2, h3, h4, h6, h7, h8⟩ := hb b hb3
  rw [er 9 (by decide) (by decide), er 10 (by decide) (by decide), er 12 (by decide) (by decide), er 5 (by decide) (by decide), er 6 (by decide) (by decide), e0 0 (by decide), e14, e11 b hb3]
  have hr : ripeV m n b = m 11 b ∨ (0 < m 9 b ∧ ∃ x, 0 ≤ x ∧ x ≤ 70 * n ∧ ripeV m n b = m 11 b + x) := by
    unfold ripeV
    by_cases e : 0 < m 9 b ∧ 0 < m 0 13 + 10
    · rw [if_pos e]
      refine Or.inr ⟨e.1, n * (m 0 13 + 10), Int.mul_nonneg (by omega) (by omega), ?_, rfl⟩
      have := Int.mul_le_mul_of_nonneg_left (show m 0 13 + 10 ≤ 70 by omega) (show 0 ≤ n by omega)
      omega
    · rw [if_neg e]; exact Or.inl (Int.add_zero _)
  refine ⟨h1, ?_, by omega, fun e => ?_, h6, h7, h8⟩
  · rcases hr with e | ⟨-, x, a, b', e⟩ <;> rw [e] <;> omega
  · rcases hr with e2 | ⟨a, -⟩
    · rw [e2]; exact h4 e
    · omega
theorem lay_5 {m : Mem} {p s h q : Nat} : layM m p s h 5 q = if q = p then 3 else m 5 q := by
  unfold layM
  rw [mset_ne (Or.inl (by decide))]
  by_cases e : q = p
  · rw [e, mset_same, if_pos rfl]
  · rw [mset_ne (Or.inr e), mset_ne (Or.inl (by decide)), mset_ne (Or.inl (by decide)), if_neg e]
theorem lay_6 {m : Mem} {p s h q : Nat} : layM m p s h 6 q = if q = p then (s : Int) else m 6 q := by
  unfold layM
  by_cases e : q = p
  · rw [e, mset_same, if_pos rfl]
  · rw [mset_ne (Or.inr e), mset_ne (Or.inl (by decide)), mset_ne (Or.inl (by decide)), mset_ne (Or.inl (by decide)), if_neg e]
theorem lay_13 {m : Mem} {p s h q : Nat} : layM m p s h 13 q = if q = s then (h : Int) + 1 else m 13 q := by
  unfold layM
  rw [mset_ne (Or.inl (by decide)), mset_ne (Or.inl (by decide))]
  by_cases e : q = s
  · rw [e, mset_same, if_pos rfl]
  · rw [mset_ne (Or.inr e), mset_ne (Or.inl (by decide)), if_neg e]
theorem lay_14 {m : Mem} {p s h q : Nat} : layM m p s h 14 q = if q = 4 * s + h then (p : Int) else m 14 q := by
  unfold layM
  rw [mset_ne (Or.inl (by decide)), mset_ne (Or.inl (by decide)), mset_ne (Or.inl (by decide))]
  by_cases e : q = 4 * s + h
  · rw [e, mset_same, if_pos rfl]
  · rw [mset_ne (Or.inr e), if_neg e]
theorem lay_o {m : Mem} {p s h k : Nat} (h5 : k ≠ 5) (h6 : k ≠ 6) (h13 : k ≠ 13) (h14 : k ≠ 14) : layM m p s h k = m k := by
  unfold layM
  rw [mset_cell (fun q => h6 q.symm), mset_cell (fun q => h5 q.symm), mset_cell (fun q => h13 q.symm), mset_cell (fun q => h14 q.symm)]
/-- a part's place changes, from a to b, neither of them a bed, nor the lorry -/
theorem P_place {c p : Nat} {m m' : Mem} {v : Int} (h : IM c m) (hp : (p : Int) < m 0 0) (hr : ∀ k, k ≠ 5 → k ≠ 6 → k ≠ 8 → k ≠ 13 → k ≠ 14 → m' k = m k) (h1 : m 5 p ≠ 1) (h6 : m 5 p ≠ 6) (hb0 : 0 ≤ m' 5 p ∧ m' 5 p ≤ 6) (hb1 : m' 5 p ≠ 1) (hv : m' 6 p = v) (hv1 : -4 ≤ v ∧ v ≤ (c : Int) + 5) (h5o : ∀ q, q ≠ p → m' 5 q = m 5 q ∧ m' 6 q = m 6 q) (h8 : ∀ q, m' 8 q = m 8 q ∨ m' 8 q = 0 ∨ ((q : Int) < m 0 0 ∧ m' 8 q = 1)) (hy' : IMy m') : IM c m' := by
  obtain ⟨⟨p1, p2, p3⟩, s, hb, hy, hl⟩ := h
  have e0 : m' 0 = m 0 := hr 0 (by decide) (by decide) (by decide) (by decide) (by decide)
  have e1 : m' 1 = m 1 := hr 1 (by decide) (by decide) (by decide) (by decide) (by decide)
  have e2 : m' 2 = m 2 := hr 2 (by decide) (by decide) (by decide) (by decide) (by decide)
  have e3 : m' 3 = m 3 := hr 3 (by decide) (by decide) (by decide) (by decide) (by decide)
  have e4 : m' 4 = m 4 := hr 4 (by decide) (by decide) (by decide) (by decide) (by decide)
  have e7 : m' 7 = m 7 := hr 7 (by decide) (by decide) (by decide) (by decide) (by decide)
  have e15 : m' 15 = m 15 := hr 15 (by decide) (by decide) (by decide) (by decide) (by decide)
  have e17 : m' 17 = m 17 := hr 17 (by decide) (by decide) (by decide) (by decide) (by decide)
  refine ⟨⟨by rw [e0]; exact p1, fun i hi => ?_, fun i hi hi40 => ?_⟩, ?_, ?_, hy', ?_⟩
  · rw [e0] at hi
    have := p2 i hi
    rw [e1, e2, e3, e4]
    refine ⟨this.1, this.2.1, this.2.2.1, this.2.2.2.1, ?_, ?_, ?_⟩
    · by_cases e : i = p
      · rw [e]; exact hb0
      · rw [(h5o i e).1]; exact this.2.2.2.2.1
    · by_cases e : i = p
      · rw [e, hv]; exact hv1
      · rw [(h5o i e).2]; exact this.2.2.2.2.2.1
    · rcases h8 i with q | q | q
      · rw [q]; exact this.2.2.2.2.2.2
      · exact Or.inl q
      · exact Or.inr q.2
  · rw [e0] at hi
    have := p3 i hi hi40
    rw [e7]
    refine ⟨this.1, ?_⟩
    rcases h8 i with q | q | q
    · rw [q]; exact this.2
    · exact q
    · omega
  · unfold IMs; rw [e0, e17]; exact s
  · refine IMb_cg hb (by rw [e0]) (by rw [e0]; exact Int.le_refl _) (fun k a b => hr k (by omega) (by omega) (by omega) (by omega) (by omega)) (fun q _ a => ?_) (fun q a b => ?_)
    · have hne : q ≠ p := fun e => h1 (by rw [← e]; exact a)
      rw [(h5o q hne).1, (h5o q hne).2]; exact ⟨a, rfl⟩
    · have hne : q ≠ p := fun e => hb1 (by rw [← e]; exact b)
      rw [(h5o q hne).1] at b
      rw [e0] at a
      exact ⟨a, b, (h5o q hne).2⟩
  · refine IMl_cg hl (by rw [e0]) (by rw [e0]; exact Int.le_refl _) (fun k _ => by rw [e15]) (fun q _ a => ?_)
    have hne : q ≠ p := fun e => h6 (by rw [← e]; exact a)
    rw [(h5o q hne).1, e3]; exact ⟨a, rfl⟩
def ht5 (m : Mem) : Int := m 13 0 + m 13 1 + m 13 2 + m 13 3 + m 13 4
theorem ht_set {m m' : Mem} {s : Nat} {v : Int} (hs : s < 5) (h : ∀ q, q < 5 → m' 13 q = if q = s then v else m 13 q) : ht5 m' = ht5 m + v - m 13 s := by
  unfold ht5
  rw [h 0 (by decide), h 1 (by decide), h 2 (by decide), h 3 (by decide), h 4 (by decide)]
  have : s = 0 ∨ s = 1 ∨ s = 2 ∨ s = 3 ∨ s = 4 := by omega
  rcases this with rfl | rfl | rfl | rfl | rfl <;> simp <;> omega
theorem cntW_one {m m' : Mem} {w : Int} {p : Nat} (h : ∀ q, q ≠ p → m' 5 q = m 5 q) (N : Nat) (hp : p < N) : cntW m' w N + (if m 5 p = w then 1 else 0) = cntW m w N + (if m' 5 p = w then 1 else 0) := by
  have := cntW_set (m := m) (w := w) (v := m' 5 p) N hp
  rw [show cntW (mset m 5 p (m' 5 p)) w N = cntW m' w N from (cntW_cg2 (m := m') (m' := mset m 5 p (m' 5 p)) (w := w) N 0 (fun q _ => by
    by_cases e : q = p
    · rw [e, mset_same]
    · rw [mset_ne (Or.inr e), h q e]) (fun q a b => absurd a (by omega)))] at this
  exact this
theorem P_stack {c : Nat} {m : Mem} {p s : Int} (h : IM c m) : IM (c + 1) (spStack m p s).2 := by
  unfold spStack
  by_cases hz : (0 ≤ p ∧ p < m 0 0) ∧ 0 ≤ s ∧ s < 5
  rotate_left
  · rw [if_neg hz]; exact IM_up h
  rw [if_pos hz]
  by_cases h2 : m 5 p.toNat = 2
  rotate_left
  · rw [if_neg h2]; exact IM_up h
  rw [if_pos h2]
  by_cases h4 : m 13 s.toNat < 4
  rotate_left
  · rw [if_neg h4]; exact IM_up h
  rw [if_pos h4]
  refine IM_up ?_
  obtain ⟨q, rfl⟩ : ∃ q : Nat, p = (q : Int) := ⟨p.toNat, by omega⟩
  obtain ⟨t, rfl⟩ : ∃ t : Nat, s = (t : Int) := ⟨s.toNat, by omega⟩
  rw [show ((q : Int)).toNat = q from rfl] at h2 ⊢
  rw [show ((t : Int)).toNat = t from rfl] at h4 ⊢
  have h' := h
  obtain ⟨⟨p1, p2, p3⟩, s', hb, ⟨y1, y2, y3⟩, hl⟩ := h
  obtain ⟨hh, ha⟩ : ∃ hh : Nat, m 13 t = (hh : Int) := ⟨(m 13 t).toNat, by have := (y1 t (by omega)).1; omega⟩
  rw [ha, show ((hh : Int)).toNat = hh from rfl]
  show IM c (layM m q t hh)
  have e5 : ∀ r, r ≠ q → layM m q t hh 5 r = m 5 r := fun r e => by rw [lay_5, if_neg e]
  refine P_place (p := q) (v := (t : Int)) h' (by omega) (fun k a b _ d e => lay_o a b d e) (by omega) (by omega) (by rw [lay_5, if_pos rfl]; decide) (by rw [lay_5, if_pos rfl]; decide) (by rw [lay_6, if_pos rfl]) (by omega) (fun r e => ⟨e5 r e, by rw [lay_6, if_neg e]⟩) (fun r => Or.inl (by rw [lay_o (by decide) (by decide) (by decide) (by decide)])) ?_
  have e0 : layM m q t hh 0 = m 0 := lay_o (by decide) (by decide) (by decide) (by decide)
  refine ⟨fun u hu => ?_, fun r hr h3 => ?_, ?_⟩
  · obtain ⟨a1, a2, a3⟩ := y1 u hu
    rw [lay_13, e0]
    by_cases e : u = t
    · subst e
      rw [if_pos rfl]
      have hneq : ∀ k : Nat, (k : Int) < m 13 u → m 14 (4 * u + k) ≠ (q : Int) := fun k hk e2 => by
        have := (a2 k hk).2.2.1
        rw [e2, show ((q : Int)).toNat = q from rfl] at this
        omega
      refine ⟨by omega, fun k hk => ?_, fun k k' hk hk' => ?_⟩
      · rw [lay_14]
        by_cases e2 : k = hh
        · rw [if_pos (by omega), show ((q : Int)).toNat = q from rfl, lay_5, lay_6, if_pos rfl, if_pos rfl]
          exact ⟨by omega, by omega, rfl, rfl⟩
        · rw [if_neg (by omega)]
          have := a2 k (by omega)
          have hn := hneq k (by omega)
          rw [lay_5, lay_6, if_neg (by omega), if_neg (by omega)]
          exact this
      · rw [lay_14, lay_14]
        by_cases e2 : k = hh
        · by_cases e3 : k' = hh
          · intro _; omega
          · rw [if_pos (by omega), if_neg (by omega)]
            intro e4
            exact absurd e4.symm (hneq k' (by omega))
        · by_cases e3 : k' = hh
          · rw [if_neg (by omega), if_pos (by omega)]
            intro e4
            exact absurd e4 (hneq k (by omega))
          · rw [if_neg (by omega), if_neg (by omega)]
            exact a3 k k' (by omega) (by omega)
    · rw [if_neg e]
      refine ⟨a1, fun k hk => ?_, fun k k' hk hk' => ?_⟩
      · rw [lay_14, if_neg (by omega)]
        have := a2 k hk
        have hn : (m 14 (4 * u + k)).toNat ≠ q := fun e2 => by rw [e2] at this; omega
        rw [lay_5, lay_6, if_neg hn, if_neg hn]
        exact this
      · rw [lay_14, lay_14, if_neg (by omega), if_neg (by omega)]
        exact a3 k k' hk hk'
  · rw [lay_6]
    by_cases e : r = q
    · rw [if_pos e]; omega
    · rw [if_neg e]
      rw [e5 r e] at h3
      rw [e0] at hr
      exact y2 r hr h3
  · have hc := cntW_one (w := 3) e5 (m 0 0).toNat (by omega)
    rw [lay_5, if_pos rfl, h2] at hc
    have hht := ht_set (m := m) (m' := layM m q t hh) (v := (hh : Int) + 1) (s := t) (by omega) (fun q' _ => lay_13)
    unfold ht5 at hht
    rw [e0, hht]
    simp at hc
    omega
