/-! what always holds goes on holding: cast -/
theorem okB_in {m : Mem} {f : Nat} {bits : Int} : ∀ k, okB m f bits k = true → ∀ j, j < k → bitZ bits j = true → m 5 (f + j) = 0 := by
  intro k
  induction k with
  | zero => intro _ j hj; omega
  | succ k ih =>
    intro h j hj hb
    unfold okB at h
    rw [Bool.and_eq_true] at h
    by_cases e : j = k
    · subst e
      have h2 := h.2
      rw [hb] at h2
      simp at h2
      exact h2.1
    · exact ih h.1 j (by omega) hb
def CFx (m M : Mem) (b f : Nat) (bits : Int) (k : Nat) : Prop :=
  (∀ q : Nat, (M 5 q = m 5 q ∧ M 6 q = m 6 q ∧ ∀ j, j < k → bitZ bits j = true → f + j ≠ q) ∨ (∃ j, j < k ∧ bitZ bits j = true ∧ f + j = q ∧ M 5 q = 1 ∧ M 6 q = (b : Int))) ∧
  (∀ i, i < cntB bits k → ∃ j, j < k ∧ bitZ bits j = true ∧ M 10 (40 * b + i) = ((f + j : Nat) : Int)) ∧
  (∀ i, i + 1 < cntB bits k → M 10 (40 * b + i) < M 10 (40 * b + (i + 1))) ∧
  (∀ j, j < k → bitZ bits j = true → ∃ i, i < cntB bits k ∧ M 10 (40 * b + i) = ((f + j : Nat) : Int)) ∧
  (∀ b' i, b' ≠ b → i < 40 → M 10 (40 * b' + i) = m 10 (40 * b' + i)) ∧
  (M 12 b = m 12 b ∨ M 12 b = m 0 14) ∧ (∀ b', b' ≠ b → M 12 b' = m 12 b')
theorem cst_F {m : Mem} {b f : Nat} {bits : Int} (h0 : m 9 b = 0) : ∀ k, k ≤ 32 → CFx m (cstR m b f bits k) b f bits k := by
  intro k
  induction k with
  | zero =>
    intro _
    exact ⟨fun q => Or.inl ⟨rfl, rfl, fun j hj => absurd hj (by omega)⟩, fun i hi => absurd hi (by unfold cntB; omega), fun i hi => absurd hi (by unfold cntB; omega), fun j hj => absurd hj (by omega), fun _ _ _ _ => rfl, Or.inl rfl, fun _ _ => rfl⟩
  | succ k ih =>
    intro hk
    obtain ⟨f1, f2, f3, f4, f5, f6, f7⟩ := ih (by omega)
    have h9 := cstR_9 m b f bits h0 k
    have h14 : cstR m b f bits k 0 14 = m 0 14 := cstR_ne m b f bits (by omega) k
    have hle := cntB_le bits k
    by_cases hb : bitZ bits k = true
    rotate_left
    · have e1 : cstR m b f bits (k + 1) = cstR m b f bits k := by
        show (if bitZ bits k = true then _ else _) = _
        rw [if_neg hb]
      have e2 : cntB bits (k + 1) = cntB bits k := by
        show (if bitZ bits k = true then _ else _) = _
        rw [if_neg hb]
      rw [e1]
      unfold CFx
      rw [e2]
      refine ⟨fun q => ?_, fun i hi => ?_, f3, fun j hj hbj => ?_, f5, f6, f7⟩
      · rcases f1 q with ⟨a, b', d⟩ | ⟨j, a, b', d⟩
        · refine Or.inl ⟨a, b', fun j hj hbj => ?_⟩
          by_cases e : j = k
          · rw [e] at hbj; exact absurd hbj hb
          · exact d j (by omega) hbj
        · exact Or.inr ⟨j, by omega, b', d⟩
      · obtain ⟨j, a, b'⟩ := f2 i hi
        exact ⟨j, by omega, b'⟩
      · by_cases e : j = k
        · rw [e] at hbj; exact absurd hbj hb
        · exact f4 j (by omega) hbj
    · have e2 : cntB bits (k + 1) = cntB bits k + 1 := by
        show (if bitZ bits k = true then _ else _) = _
        rw [if_pos hb]
      have e1 : cstR m b f bits (k + 1) = mset (mset (mset (mset (mset (cstR m b f bits k) 5 (f + k) 1) 6 (f + k) (b : Int)) 10 (40 * b + cntB bits k) ((f + k : Nat) : Int)) 9 b (cstR m b f bits k 9 b + 1)) 12 b (m 0 14) := by
        show (if bitZ bits k = true then addB (cstR m b f bits k) b (f + k) else _) = _
        rw [if_pos hb]
        unfold addB
        rw [h9, h14]
        rfl
      rw [e1]
      generalize hM : cstR m b f bits k = M at f1 f2 f3 f4 f5 f6 f7 h9 h14 ⊢
      have g5 : ∀ q, mset (mset (mset (mset (mset M 5 (f + k) 1) 6 (f + k) (b : Int)) 10 (40 * b + cntB bits k) ((f + k : Nat) : Int)) 9 b (M 9 b + 1)) 12 b (m 0 14) 5 q = if q = f + k then 1 else M 5 q := fun q => by
        rw [mset_cell (by decide), mset_cell (by decide), mset_cell (by decide), mset_cell (by decide)]
        by_cases e : q = f + k
        · rw [e, mset_same, if_pos rfl]
        · rw [mset_ne (Or.inr e), if_neg e]
      have g6 : ∀ q, mset (mset (mset (mset (mset M 5 (f + k) 1) 6 (f + k) (b : Int)) 10 (40 * b + cntB bits k) ((f + k : Nat) : Int)) 9 b (M 9 b + 1)) 12 b (m 0 14) 6 q = if q = f + k then (b : Int) else M 6 q := fun q => by
        rw [mset_cell (by decide), mset_cell (by decide), mset_cell (by decide)]
        by_cases e : q = f + k
        · rw [e, mset_same, if_pos rfl]
        · rw [mset_ne (Or.inr e), mset_cell (by decide), if_neg e]
      have g10 : ∀ q, mset (mset (mset (mset (mset M 5 (f + k) 1) 6 (f + k) (b : Int)) 10 (40 * b + cntB bits k) ((f + k : Nat) : Int)) 9 b (M 9 b + 1)) 12 b (m 0 14) 10 q = if q = 40 * b + cntB bits k then ((f + k : Nat) : Int) else M 10 q := fun q => by
        rw [mset_cell (by decide), mset_cell (by decide)]
        by_cases e : q = 40 * b + cntB bits k
        · rw [e, mset_same, if_pos rfl]
        · rw [mset_ne (Or.inr e), mset_cell (by decide), mset_cell (by decide), if_neg e]
      have g12 : ∀ q, mset (mset (mset (mset (mset M 5 (f + k) 1) 6 (f + k) (b : Int)) 10 (40 * b + cntB bits k) ((f + k : Nat) : Int)) 9 b (M 9 b + 1)) 12 b (m 0 14) 12 q = if q = b then m 0 14 else M 12 q := fun q => by
        by_cases e : q = b
        · rw [e, mset_same, if_pos rfl]
        · rw [mset_ne (Or.inr e), mset_cell (by decide), mset_cell (by decide), mset_cell (by decide), mset_cell (by decide), if_neg e]
      generalize mset (mset (mset (mset (mset M 5 (f + k) 1) 6 (f + k) (b : Int)) 10 (40 * b + cntB bits k) ((f + k : Nat) : Int)) 9 b (M 9 b + 1)) 12 b (m 0 14) = M' at g5 g6 g10 g12
      unfold CFx
      rw [e2]
      refine ⟨fun q => ?_, fun i hi => ?_, fun i hi => ?_, fun j hj hbj => ?_, fun b' i hb' hi => ?_, Or.inr ?_, fun b' hb' => ?_⟩
      · rw [g5, g6]
        by_cases e : q = f + k
        · rw [if_pos e, if_pos e]; exact Or.inr ⟨k, by omega, hb, e.symm, rfl, rfl⟩
        · rw [if_neg e, if_neg e]
          rcases f1 q with ⟨a, b', d⟩ | ⟨j, a, b', d⟩
          · refine Or.inl ⟨a, b', fun j hj hbj => ?_⟩
            by_cases e3 : j = k
            · rw [e3]; exact fun x => e x.symm
            · exact d j (by omega) hbj
          · exact Or.inr ⟨j, by omega, b', d⟩
      · rw [g10]
        by_cases e : i = cntB bits k
        · rw [if_pos (by omega)]; exact ⟨k, by omega, hb, rfl⟩
        · rw [if_neg (by omega)]
          obtain ⟨j, a, b'⟩ := f2 i (by omega)
          exact ⟨j, by omega, b'⟩
      · rw [g10, g10]
        by_cases e : i + 1 = cntB bits k
        · rw [if_neg (by omega), if_pos (by omega)]
          obtain ⟨j, a, b', d⟩ := f2 i (by omega)
          rw [d]
          omega
        · rw [if_neg (by omega), if_neg (by omega)]
          exact f3 i (by omega)
      · by_cases e : j = k
        · exact ⟨cntB bits k, by omega, by rw [g10, if_pos rfl, e]⟩
        · obtain ⟨i, a, b'⟩ := f4 j (by omega) hbj
          exact ⟨i, by omega, by rw [g10, if_neg (by omega)]; exact b'⟩
      · rw [g10, if_neg (by omega)]; exact f5 b' i hb' hi
      · rw [g12, if_pos rfl]
      · rw [g12, if_neg hb']; exact f7 b' hb'
theorem P_cast {c : Nat} {m : Mem} {b f bits : Int} (h : IM c m) : IM (c + 1) (spCast m b f bits).2 := by
  unfold spCast
  by_cases hz : (0 ≤ b ∧ b < 3) ∧ (0 ≤ f ∧ f < m 0 0) ∧ bits ≠ 0 ∧ inBb m f.toNat bits = true
  rotate_left
  · rw [if_neg hz]; exact IM_up h
  rw [if_pos hz]
  by_cases h2 : m 9 b.toNat = 0 ∧ okB m f.toNat bits 32 = true ∧ sumB m f.toNat bits 32 ≤ 300
  rotate_left
  · rw [if_neg h2]; exact IM_up h
  rw [if_pos h2]
  refine IM_up ?_
  obtain ⟨d, rfl⟩ : ∃ d : Nat, b = (d : Int) := ⟨b.toNat, by omega⟩
  obtain ⟨g, rfl⟩ : ∃ g : Nat, f = (g : Int) := ⟨f.toNat, by omega⟩
  rw [show ((d : Int)).toNat = d from rfl, show ((g : Int)).toNat = g from rfl] at *
  have hin := (inB_dec m g bits).mpr hz.2.2.2
  obtain ⟨h9, hok, -⟩ := h2
  have hdr := okB_in 32 hok
  have hd3 : d < 3 := by omega
  obtain ⟨f1, f2, f3, f4, f5, f6, f7⟩ := cst_F (m := m) (b := d) (f := g) (bits := bits) h9 32 (Nat.le_refl 32)
  have e9 := cstR_9 m d g bits h9 32
  have e9o : ∀ b', b' ≠ d → cstR m d g bits 32 9 b' = m 9 b' := fun b' hb' => cstR_9o m d g bits hb' 32
  have hcle := cntB_le bits 32
  obtain ⟨⟨p1, p2, p3⟩, ⟨s1, s2, s3, s4⟩, hb, hy, hl⟩ := h
  show IM c (mset (cstR m d g bits 32) 0 20 (m 0 20 + 1))
  have er' : ∀ k, k ≠ 5 → k ≠ 6 → k ≠ 9 → k ≠ 10 → k ≠ 12 → cstR m d g bits 32 k = m k := fun k a b' e x y => by
    funext j
    exact cstR_ne m d g bits ⟨a, b', e, x, y⟩ 32
  generalize cstR m d g bits 32 = M at f1 f2 f3 f4 f5 f6 f7 e9 e9o er'
  have er : ∀ k, k ≠ 0 → mset M 0 20 (m 0 20 + 1) k = M k := fun k a => mset_cell (fun q => a q.symm)
  have e0 : ∀ j, j ≠ 20 → mset M 0 20 (m 0 20 + 1) 0 j = m 0 j := fun j a => by
    rw [mset_ne (Or.inr a), er' 0 (by decide) (by decide) (by decide) (by decide) (by decide)]
  generalize mset M 0 20 (m 0 20 + 1) = m' at er e0
  have e1 : m' 1 = m 1 := by rw [er 1 (by decide), er' 1 (by decide) (by decide) (by decide) (by decide) (by decide)]
  have e2 : m' 2 = m 2 := by rw [er 2 (by decide), er' 2 (by decide) (by decide) (by decide) (by decide) (by decide)]
  have e3 : m' 3 = m 3 := by rw [er 3 (by decide), er' 3 (by decide) (by decide) (by decide) (by decide) (by decide)]
  have e4 : m' 4 = m 4 := by rw [er 4 (by decide), er' 4 (by decide) (by decide) (by decide) (by decide) (by decide)]
  have e7 : m' 7 = m 7 := by rw [er 7 (by decide), er' 7 (by decide) (by decide) (by decide) (by decide) (by decide)]
  have e8 : m' 8 = m 8 := by rw [er 8 (by decide), er' 8 (by decide) (by decide) (by decide) (by decide) (by decide)]
  have e11 : m' 11 = m 11 := by rw [er 11 (by decide), er' 11 (by decide) (by decide) (by decide) (by decide) (by decide)]
  have e13 : m' 13 = m 13 := by rw [er 13 (by decide), er' 13 (by decide) (by decide) (by decide) (by decide) (by decide)]
  have e14 : m' 14 = m 14 := by rw [er 14 (by decide), er' 14 (by decide) (by decide) (by decide) (by decide) (by decide)]
  have e15 : m' 15 = m 15 := by rw [er 15 (by decide), er' 15 (by decide) (by decide) (by decide) (by decide) (by decide)]
  have e17 : m' 17 = m 17 := by rw [er 17 (by decide), er' 17 (by decide) (by decide) (by decide) (by decide) (by decide)]
  have e00 := e0 0 (by decide)
  have ho : ∀ q : Nat, (m' 5 q = m 5 q ∧ m' 6 q = m 6 q) ∨ ((q : Int) < m 0 0 ∧ m 5 q = 0 ∧ m' 5 q = 1 ∧ m' 6 q = (d : Int)) := fun q => by
    rw [er 5 (by decide), er 6 (by decide)]
    rcases f1 q with ⟨a, b', -⟩ | ⟨j, a, b', x, y, z⟩
    · exact Or.inl ⟨a, b'⟩
    · refine Or.inr ⟨?_, ?_, y, z⟩
      · rw [← x]; exact hin j a b'
      · rw [← x]; exact hdr j a b'
  have hA : ∀ v : Int, v ≠ 0 → ∀ q : Nat, (q : Int) < m 0 0 → m 5 q = v → m' 5 q = v ∧ m' 6 q = m 6 q := fun v hv q hq e => by
    rcases ho q with ⟨a, b'⟩ | ⟨-, a, -⟩
    · exact ⟨by rw [a]; exact e, b'⟩
    · exact absurd (e.symm.trans a) hv
  have hB : ∀ v : Int, v ≠ 1 → ∀ q : Nat, (q : Int) < m' 0 0 → m' 5 q = v → (q : Int) < m 0 0 ∧ m 5 q = v ∧ m' 6 q = m 6 q := fun v hv q hq e => by
    rw [e00] at hq
    rcases ho q with ⟨a, b'⟩ | ⟨-, -, a, -⟩
    · exact ⟨hq, by rw [← a]; exact e, b'⟩
    · exact absurd (e.symm.trans a) hv
  refine ⟨⟨by rw [e00]; exact p1, fun i hi => ?_, fun i hi hi40 => ?_⟩, ⟨by rw [e0 14 (by decide)]; exact s1, by rw [e0 13 (by decide)]; exact s2, by rw [e0 19 (by decide)]; exact s3, by rw [e17]; exact s4⟩, fun b' hb' => ?_, ?_, ?_⟩
  · rw [e00] at hi
    have := p2 i hi
    rw [e1, e2, e3, e4, e8]
    refine ⟨this.1, this.2.1, this.2.2.1, this.2.2.2.1, ?_, ?_, this.2.2.2.2.2.2⟩
    · rcases ho i with ⟨a, -⟩ | ⟨-, -, a, -⟩
      · rw [a]; exact this.2.2.2.2.1
      · rw [a]; decide
    · rcases ho i with ⟨-, a⟩ | ⟨-, -, -, a⟩
      · rw [a]; exact this.2.2.2.2.2.1
      · rw [a]; omega
  · rw [e00] at hi
    rw [e7, e8]
    exact p3 i hi hi40
  · obtain ⟨h1, h2', h3, h4, h5, h6, h7⟩ := hb b' hb'
    rw [e11, e0 14 (by decide), e00, er 9 (by decide), er 10 (by decide), er 12 (by decide)]
    by_cases e : b' = d
    · subst e
      rw [e9]
      have h11 := h4 h9
      refine ⟨by omega, h2', ?_, fun _ => h11, fun k hk => ?_, fun k hk => f3 k (by omega), fun p hp a1 a2 => ?_⟩
      · rcases f6 with x | x
        · rw [x]; exact h3
        · rw [x]; omega
      · obtain ⟨j, a, b'', x⟩ := f2 k (by omega)
        rw [x, show ((g + j : Nat) : Int).toNat = g + j from rfl]
        have hlt := hin j a b''
        refine ⟨by omega, hlt, ?_, ?_⟩
        · rcases ho (g + j) with ⟨-, -⟩ | ⟨-, -, y, -⟩
          · rcases f1 (g + j) with ⟨-, -, y⟩ | ⟨-, -, -, -, y, -⟩
            · exact absurd rfl (y j a b'')
            · rw [er 5 (by decide)]; exact y
          · exact y
        · rcases f1 (g + j) with ⟨-, -, y⟩ | ⟨-, -, -, -, -, y⟩
          · exact absurd rfl (y j a b'')
          · rw [er 6 (by decide)]; exact y
      · rw [er 5 (by decide)] at a1
        rw [er 6 (by decide)] at a2
        rcases f1 p with ⟨x, y, -⟩ | ⟨j, a, b'', x, -⟩
        · rw [x] at a1
          rw [y] at a2
          obtain ⟨k, hk, -⟩ := h7 p hp a1 a2
          omega
        · obtain ⟨i, hi, hx⟩ := f4 j a b''
          exact ⟨i, by omega, by rw [hx, x]⟩
    · rw [e9o b' e, f7 b' e]
      refine ⟨h1, h2', h3, h4, fun k hk => ?_, fun k hk => ?_, fun p hp a1 a2 => ?_⟩
      · rw [f5 b' k e (by omega)]
        obtain ⟨a1, a2, a3, a4⟩ := h5 k hk
        obtain ⟨x1, x2⟩ := hA 1 (by decide) _ (by omega) a3
        exact ⟨a1, a2, x1, by rw [x2]; exact a4⟩
      · rw [f5 b' k e (by omega), f5 b' (k + 1) e (by omega)]; exact h6 k hk
      · rcases ho p with ⟨x, y⟩ | ⟨-, -, -, y⟩
        · rw [x] at a1
          rw [y] at a2
          obtain ⟨k, hk, hx⟩ := h7 p hp a1 a2
          exact ⟨k, hk, by rw [f5 b' k e (by omega)]; exact hx⟩
        · rw [y] at a2; omega
  · exact IMy_cg hy p1.1 (by rw [e00]; exact Int.le_refl _) ⟨e13, e14⟩ (hA 3 (by decide)) (hB 3 (by decide))
  · exact IMl_cg hl (e0 17 (by decide)) (by rw [e00]; exact Int.le_refl _) (fun k _ => by rw [e15]) (fun q hq e => ⟨(hA 6 (by decide) q hq e).1, by rw [e3]⟩)
