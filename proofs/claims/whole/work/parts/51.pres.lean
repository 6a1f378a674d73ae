/-! what always holds goes on holding: go, letGo -/
theorem goK_or (m : Mem) : ∀ (k q : Nat), (goK m k 5 q = m 5 q ∧ goK m k 6 q = m 6 q ∧ ∀ j, j < k → (m 15 j).toNat ≠ q) ∨ ((∃ j, j < k ∧ (m 15 j).toNat = q) ∧ goK m k 5 q = 4 ∧ goK m k 6 q = m 0 19) := by
  intro k q
  induction k with
  | zero => exact Or.inl ⟨rfl, rfl, fun j hj => absurd hj (by omega)⟩
  | succ k ih =>
    show (mset (mset (goK m k) 5 (m 15 k).toNat 4) 6 (m 15 k).toNat (m 0 19) 5 q = _ ∧ mset (mset (goK m k) 5 (m 15 k).toNat 4) 6 (m 15 k).toNat (m 0 19) 6 q = _ ∧ _) ∨ (_ ∧ mset (mset (goK m k) 5 (m 15 k).toNat 4) 6 (m 15 k).toNat (m 0 19) 5 q = _ ∧ mset (mset (goK m k) 5 (m 15 k).toNat 4) 6 (m 15 k).toNat (m 0 19) 6 q = _)
    rw [show mset (mset (goK m k) 5 (m 15 k).toNat 4) 6 (m 15 k).toNat (m 0 19) 5 q = mset (goK m k) 5 (m 15 k).toNat 4 5 q from mset_ne (Or.inl (by decide))]
    by_cases e : (m 15 k).toNat = q
    · rw [e, mset_same, mset_same]
      exact Or.inr ⟨⟨k, by omega, e⟩, rfl, rfl⟩
    · rw [mset_ne (Or.inr (fun h => e h.symm)), mset_ne (Or.inr (fun h => e h.symm)), mset_ne (Or.inl (by decide))]
      rcases ih with ⟨a, b, d⟩ | ⟨⟨j, a, a'⟩, b, d⟩
      · refine Or.inl ⟨a, b, fun j hj => ?_⟩
        by_cases e2 : j = k
        · rw [e2]; exact e
        · exact d j (by omega)
      · exact Or.inr ⟨⟨j, by omega, a'⟩, b, d⟩
theorem P_go {c : Nat} {m : Mem} (h : IM c m) : IM (c + 1) (spGo m).2 := by
  unfold spGo
  by_cases h0 : m 0 17 = 0
  · rw [if_pos h0]; exact IM_up h
  rw [if_neg h0]
  obtain ⟨⟨p1, p2, p3⟩, ⟨s1, s2, s3, s4⟩, hb, hy, hl⟩ := h
  obtain ⟨l1, l2, l3, l4, l5⟩ := hl
  show IM (c + 1) (mset (mset (goK m (m 0 17).toNat) 0 17 0) 0 19 (m 0 19 + 1))
  generalize hm' : mset (mset (goK m (m 0 17).toNat) 0 17 0) 0 19 (m 0 19 + 1) = m'
  have er : ∀ k, k ≠ 0 → k ≠ 5 → k ≠ 6 → m' k = m k := fun k a b d => by
    rw [← hm', mset_cell (fun q => a q.symm), mset_cell (fun q => a q.symm)]
    funext j
    exact goK_ne m b d _
  have e0 : ∀ j, j ≠ 17 → j ≠ 19 → m' 0 j = m 0 j := fun j a b => by
    rw [← hm', mset_ne (Or.inr b), mset_ne (Or.inr a)]
    exact goK_ne m (by decide) (by decide) _
  have e17 : m' 0 17 = 0 := by rw [← hm', mset_ne (Or.inr (by decide)), mset_same]
  have e19 : m' 0 19 = m 0 19 + 1 := by rw [← hm', mset_same]
  have ho : ∀ q : Nat, (m' 5 q = m 5 q ∧ m' 6 q = m 6 q) ∨ ((q : Int) < m 0 0 ∧ m 5 q = 6 ∧ m' 5 q = 4 ∧ m' 6 q = m 0 19) := fun q => by
    rw [← hm', mset_cell (by decide), mset_cell (by decide), mset_cell (by decide), mset_cell (by decide)]
    rcases goK_or m (m 0 17).toNat q with ⟨a, b, -⟩ | ⟨⟨j, hj, e⟩, b, d⟩
    · exact Or.inl ⟨a, b⟩
    · obtain ⟨a1, a2, a3⟩ := l2 j (by omega)
      exact Or.inr ⟨by omega, by rw [← e]; exact a3, b, d⟩
  have hA : ∀ v : Int, v ≠ 6 → ∀ q : Nat, (q : Int) < m 0 0 → m 5 q = v → m' 5 q = v ∧ m' 6 q = m 6 q := fun v hv q hq e => by
    rcases ho q with ⟨a, b⟩ | ⟨-, a, -, -⟩
    · exact ⟨by rw [a]; exact e, b⟩
    · exact absurd (e.symm.trans a) hv
  have e00 := e0 0 (by decide) (by decide)
  have hB : ∀ v : Int, v ≠ 4 → ∀ q : Nat, (q : Int) < m' 0 0 → m' 5 q = v → (q : Int) < m 0 0 ∧ m 5 q = v ∧ m' 6 q = m 6 q := fun v hv q hq e => by
    rw [e00] at hq
    rcases ho q with ⟨a, b⟩ | ⟨-, -, a, -⟩
    · exact ⟨hq, by rw [← a]; exact e, b⟩
    · exact absurd (e.symm.trans a) hv
  refine ⟨⟨by rw [e00]; exact p1, fun i hi => ?_, fun i hi hi40 => ?_⟩, ⟨by rw [e0 14 (by decide) (by decide)]; exact s1, by rw [e0 13 (by decide) (by decide)]; exact s2, by rw [e19]; omega, by rw [er 17 (by decide) (by decide) (by decide)]; exact s4⟩, ?_, ?_, ?_⟩
  · rw [e00] at hi
    have := p2 i hi
    rw [er 1 (by decide) (by decide) (by decide), er 2 (by decide) (by decide) (by decide), er 3 (by decide) (by decide) (by decide), er 4 (by decide) (by decide) (by decide), er 8 (by decide) (by decide) (by decide)]
    refine ⟨this.1, this.2.1, this.2.2.1, this.2.2.2.1, ?_, ?_, this.2.2.2.2.2.2⟩
    · rcases ho i with ⟨a, -⟩ | ⟨-, -, a, -⟩
      · rw [a]; exact this.2.2.2.2.1
      · rw [a]; decide
    · rcases ho i with ⟨-, a⟩ | ⟨-, -, -, a⟩
      · rw [a]; omega
      · rw [a]; omega
  · rw [e00] at hi
    rw [er 7 (by decide) (by decide) (by decide), er 8 (by decide) (by decide) (by decide)]
    exact p3 i hi hi40
  · exact IMb_cg hb (e0 14 (by decide) (by decide)) (by rw [e00]; exact Int.le_refl _) (fun k a b => er k (by omega) (by omega) (by omega)) (hA 1 (by decide)) (hB 1 (by decide))
  · exact IMy_cg hy p1.1 (by rw [e00]; exact Int.le_refl _) ⟨er 13 (by decide) (by decide) (by decide), er 14 (by decide) (by decide) (by decide)⟩ (hA 3 (by decide)) (hB 3 (by decide))
  · unfold IMl
    rw [e17]
    exact ⟨⟨by decide, by decide⟩, fun k hk => absurd hk (by omega), (by decide : (0 : Int) ≤ 120), (by decide : (0 : Int) ≤ 720), (by decide : (0 : Int) ≤ 720)⟩
theorem lgK_in (m : Mem) (b : Nat) : ∀ (k q : Nat), (∃ j, j < k ∧ qB m b j = q) → (lgK m b k 5 q = 2 ∨ lgK m b k 5 q = 5) ∧ lgK m b k 6 q = -4 ∧ lgK m b k 8 q = 0 := by
  intro k q
  induction k with
  | zero => intro ⟨j, hj, _⟩; exact absurd hj (by omega)
  | succ k ih =>
    intro h
    unfold lgK
    by_cases e : qB m b k = q
    · rw [e]
      refine ⟨?_, ?_, mset_same⟩
      · rw [mset_cell (by decide), mset_same]
        split
        · exact Or.inr rfl
        · exact Or.inl rfl
      · rw [mset_cell (by decide), mset_cell (by decide), mset_same]
    · obtain ⟨j, hj, hj2⟩ := h
      have h' : ∃ j, j < k ∧ qB m b j = q := ⟨j, by
        by_cases e2 : j = k
        · rw [e2] at hj2; exact absurd hj2 e
        · omega, hj2⟩
      obtain ⟨a1, a2, a3⟩ := ih h'
      have hne : q ≠ qB m b k := fun x => e x.symm
      refine ⟨?_, ?_, ?_⟩
      · rw [mset_cell (by decide), mset_ne (Or.inr hne), mset_cell (by decide), mset_cell (by decide)]; exact a1
      · rw [mset_cell (by decide), mset_cell (by decide), mset_ne (Or.inr hne), mset_cell (by decide)]; exact a2
      · rw [mset_ne (Or.inr hne), mset_cell (by decide), mset_cell (by decide), mset_cell (by decide)]; exact a3
theorem P_letGo {c : Nat} {m : Mem} {b : Int} (h : IM c m) : IM (c + 1) (spLetGo m b).2 := by
  unfold spLetGo
  by_cases hz : 0 ≤ b ∧ b < 3
  rotate_left
  · rw [if_neg hz]; exact IM_up h
  rw [if_pos hz]
  by_cases h2 : m 9 b.toNat = 0 ∨ m 11 b.toNat < 500 ∨ m 0 14 - m 12 b.toNat < 12
  · rw [if_pos h2]; exact IM_up h
  rw [if_neg h2]
  refine IM_up ?_
  obtain ⟨d, rfl⟩ : ∃ d : Nat, b = (d : Int) := ⟨b.toNat, by omega⟩
  rw [show ((d : Int)).toNat = d from rfl]
  have hd3 : d < 3 := by omega
  have b00 := h.1.1
  obtain ⟨q1, q2, q3⟩ := bed_q h hd3 (show m 0 0 = ((m 0 0).toNat : Int) by omega)
  obtain ⟨⟨p1, p2, p3⟩, ⟨s1, s2, s3, s4⟩, hb, hy, hl⟩ := h
  show IM c (mset (mset (lgK m d (m 9 d).toNat) 9 d 0) 11 d 0)
  generalize hm' : mset (mset (lgK m d (m 9 d).toNat) 9 d 0) 11 d 0 = m'
  have er : ∀ k, k < 5 ∨ 8 < k → k ≠ 9 → k ≠ 11 → m' k = m k := fun k a b e => by
    rw [← hm', mset_cell (fun q => e q.symm), mset_cell (fun q => b q.symm)]
    funext j
    exact lgK_ne m d a _
  have e9 : ∀ q, m' 9 q = if q = d then 0 else m 9 q := fun q => by
    rw [← hm', mset_cell (by decide)]
    by_cases e : q = d
    · rw [e, mset_same, if_pos rfl]
    · rw [mset_ne (Or.inr e), if_neg e]; exact lgK_ne m d (by decide) _
  have e11 : ∀ q, m' 11 q = if q = d then 0 else m 11 q := fun q => by
    rw [← hm']
    by_cases e : q = d
    · rw [e, mset_same, if_pos rfl]
    · rw [mset_ne (Or.inr e), mset_cell (by decide), if_neg e]; exact lgK_ne m d (by decide) _
  have ho : ∀ q : Nat, ((∀ k, 5 ≤ k → k ≤ 8 → m' k q = m k q) ∧ ¬ ∃ j, j < (m 9 d).toNat ∧ qB m d j = q) ∨ ((q : Int) < m 0 0 ∧ m 5 q = 1 ∧ m 6 q = (d : Int) ∧ (m' 5 q = 2 ∨ m' 5 q = 5) ∧ m' 6 q = -4 ∧ m' 8 q = 0) := fun q => by
    by_cases e : ∃ j, j < (m 9 d).toNat ∧ qB m d j = q
    · obtain ⟨a1, a2, a3⟩ := lgK_in m d (m 9 d).toNat q e
      obtain ⟨j, hj, hjq⟩ := e
      obtain ⟨c1, c2, c3, c4⟩ := q1 j (by omega)
      rw [hjq] at c1 c2 c3 c4
      refine Or.inr ⟨by omega, c3, c4, ?_, ?_, ?_⟩
      · rw [← hm', mset_cell (by decide), mset_cell (by decide)]; exact a1
      · rw [← hm', mset_cell (by decide), mset_cell (by decide)]; exact a2
      · rw [← hm', mset_cell (by decide), mset_cell (by decide)]; exact a3
    · refine Or.inl ⟨fun k k1 k2 => ?_, e⟩
      rw [← hm', mset_cell (by omega), mset_cell (by omega)]
      exact lgK_out m d _ (fun j hj hjq => e ⟨j, hj, hjq⟩)
  have hA : ∀ v : Int, v ≠ 1 → ∀ q : Nat, (q : Int) < m 0 0 → m 5 q = v → m' 5 q = v ∧ m' 6 q = m 6 q := fun v hv q hq e => by
    rcases ho q with ⟨a, -⟩ | ⟨-, a, -⟩
    · exact ⟨by rw [a 5 (by decide) (by decide)]; exact e, a 6 (by decide) (by decide)⟩
    · exact absurd (e.symm.trans a) hv
  have e0 : m' 0 = m 0 := er 0 (by decide) (by decide) (by decide)
  have hB : ∀ v : Int, v ≠ 2 → v ≠ 5 → ∀ q : Nat, (q : Int) < m' 0 0 → m' 5 q = v → (q : Int) < m 0 0 ∧ m 5 q = v ∧ m' 6 q = m 6 q := fun v hv hv' q hq e => by
    rw [e0] at hq
    rcases ho q with ⟨a, -⟩ | ⟨-, -, -, a, -⟩
    · exact ⟨hq, by rw [← a 5 (by decide) (by decide)]; exact e, a 6 (by decide) (by decide)⟩
    · rcases a with a | a
      · exact absurd (e.symm.trans a) hv
      · exact absurd (e.symm.trans a) hv'
  refine ⟨⟨by rw [e0]; exact p1, fun i hi => ?_, fun i hi hi40 => ?_⟩, ?_, fun b' hb' => ?_, ?_, ?_⟩
  · rw [e0] at hi
    have := p2 i hi
    rw [er 1 (by decide) (by decide) (by decide), er 2 (by decide) (by decide) (by decide), er 3 (by decide) (by decide) (by decide), er 4 (by decide) (by decide) (by decide)]
    refine ⟨this.1, this.2.1, this.2.2.1, this.2.2.2.1, ?_, ?_, ?_⟩
    · rcases ho i with ⟨a, -⟩ | ⟨-, -, -, a, -⟩
      · rw [a 5 (by decide) (by decide)]; exact this.2.2.2.2.1
      · rcases a with a | a <;> rw [a] <;> decide
    · rcases ho i with ⟨a, -⟩ | ⟨-, -, -, -, a, -⟩
      · rw [a 6 (by decide) (by decide)]; exact this.2.2.2.2.2.1
      · rw [a]; omega
    · rcases ho i with ⟨a, -⟩ | ⟨-, -, -, -, -, a⟩
      · rw [a 8 (by decide) (by decide)]; exact this.2.2.2.2.2.2
      · exact Or.inl a
  · rw [e0] at hi
    have := p3 i hi hi40
    rcases ho i with ⟨a, -⟩ | ⟨a, -⟩
    · rw [a 7 (by decide) (by decide), a 8 (by decide) (by decide)]; exact this
    · omega
  · unfold IMs; rw [e0, er 17 (by decide) (by decide) (by decide)]; exact ⟨s1, s2, s3, s4⟩
  · obtain ⟨h1, h2', h3, h4, h5, h6, h7⟩ := hb b' hb'
    rw [e9, e11, e0, er 10 (by decide) (by decide) (by decide), er 12 (by decide) (by decide) (by decide)]
    by_cases e : b' = d
    · subst e
      rw [if_pos rfl, if_pos rfl]
      refine ⟨by decide, by omega, h3, fun _ => rfl, fun k hk => absurd hk (by omega), fun k hk => absurd hk (by omega), fun p hp a1 a2 => ?_⟩
      exfalso
      rcases ho p with ⟨a, hno⟩ | ⟨-, -, -, a, -⟩
      · rw [a 5 (by decide) (by decide)] at a1
        rw [a 6 (by decide) (by decide)] at a2
        obtain ⟨j, hj, hjq⟩ := q3 p (by omega) a1 a2
        exact hno ⟨j, by omega, hjq⟩
      · omega
    · rw [if_neg e, if_neg e]
      refine ⟨h1, h2', h3, h4, fun k hk => ?_, h6, fun p hp a1 a2 => ?_⟩
      · obtain ⟨a1, a2, a3, a4⟩ := h5 k hk
        refine ⟨a1, a2, ?_⟩
        rcases ho (m 10 (40 * b' + k)).toNat with ⟨a, -⟩ | ⟨-, -, a, -⟩
        · rw [a 5 (by decide) (by decide), a 6 (by decide) (by decide)]; exact ⟨a3, a4⟩
        · rw [a4] at a; omega
      · rcases ho p with ⟨a, -⟩ | ⟨-, -, -, a, -⟩
        · rw [a 5 (by decide) (by decide)] at a1
          rw [a 6 (by decide) (by decide)] at a2
          exact h7 p hp a1 a2
        · omega
  · exact IMy_cg hy p1.1 (by rw [e0]; exact Int.le_refl _) ⟨er 13 (by decide) (by decide) (by decide), er 14 (by decide) (by decide) (by decide)⟩ (hA 3 (by decide)) (hB 3 (by decide) (by decide))
  · exact IMl_cg hl (by rw [e0]) (by rw [e0]; exact Int.le_refl _) (fun k _ => by rw [er 15 (by decide) (by decide) (by decide)]) (fun q hq e => ⟨(hA 6 (by decide) q hq e).1, by rw [er 3 (by decide) (by decide) (by decide)]⟩)
