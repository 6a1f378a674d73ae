/-! what always holds goes on holding: tops struck, move, load, change -/
theorem top_p {c : Nat} {m : Mem} {s : Nat} (h : IM c m) (hs : s < 5) (h0 : 0 < m 13 s) : m 14 (4 * s + ((m 13 s).toNat - 1)) = (topM m s : Int) ∧ (topM m s : Int) < m 0 0 ∧ m 5 (topM m s) = 3 ∧ m 6 (topM m s) = (s : Int) := by
  obtain ⟨a1, a2, a3⟩ := h.2.2.2.1.1 s hs
  have := a2 ((m 13 s).toNat - 1) (by omega)
  have e : m 14 (4 * s + ((m 13 s).toNat - 1)) = (topM m s : Int) := by unfold topM; omega
  rw [e] at this
  exact ⟨e, this.2.1, this.2.2.1, this.2.2.2⟩
/-- what is left of the stacks when the top of s is off, and lies nowhere -/
theorem Y_off {c : Nat} {m m' : Mem} {s : Nat} (h : IM c m) (hs : s < 5) (h0 : 0 < m 13 s) (e0 : m' 0 0 = m 0 0) (e14 : m' 14 = m 14) (e13 : ∀ q, q < 5 → m' 13 q = if q = s then m 13 s - 1 else m 13 q) (h5o : ∀ q, q ≠ topM m s → m' 5 q = m 5 q ∧ m' 6 q = m 6 q) (h5 : m' 5 (topM m s) ≠ 3) : IMy m' := by
  obtain ⟨t1, t2, t3, t4⟩ := top_p h hs h0
  obtain ⟨⟨p1, p2, p3⟩, s', hb, ⟨y1, y2, y3⟩, hl⟩ := h
  obtain ⟨a1, a2, a3⟩ := y1 s hs
  refine ⟨fun u hu => ?_, fun r hr h3 => ?_, ?_⟩
  · obtain ⟨b1, b2, b3⟩ := y1 u hu
    rw [e13 u hu, e0, e14]
    by_cases e : u = s
    · subst e
      rw [if_pos rfl]
      refine ⟨by omega, fun k hk => ?_, fun k k' hk hk' => b3 k k' (by omega) (by omega)⟩
      have := b2 k (by omega)
      have hne : (m 14 (4 * u + k)).toNat ≠ topM m u := fun e2 => by
        have h9 : m 14 (4 * u + k) = m 14 (4 * u + ((m 13 u).toNat - 1)) := by rw [t1]; omega
        have := b3 k ((m 13 u).toNat - 1) (by omega) (by omega) h9
        omega
      rw [(h5o _ hne).1, (h5o _ hne).2]
      exact this
    · rw [if_neg e]
      refine ⟨b1, fun k hk => ?_, b3⟩
      have := b2 k hk
      have hne : (m 14 (4 * u + k)).toNat ≠ topM m s := fun e2 => by rw [e2] at this; omega
      rw [(h5o _ hne).1, (h5o _ hne).2]
      exact this
  · by_cases e : r = topM m s
    · rw [e] at h3; exact absurd h3 h5
    · rw [(h5o r e).1] at h3
      rw [(h5o r e).2]
      exact y2 r (by omega) h3
  · have hc := cntW_one (w := 3) (fun q hq => (h5o q hq).1) (m 0 0).toNat (by omega)
    rw [if_pos t3, if_neg h5] at hc
    have hht := ht_set (m := m) (m' := m') (v := m 13 s - 1) (s := s) hs e13
    unfold ht5 at hht
    rw [e0, hht]
    omega
theorem P_pop {c : Nat} {m : Mem} {s : Nat} (h : IM c m) (hs : s < 5) (h0 : 0 < m 13 s) : IM c (popM m s) := by
  obtain ⟨t1, t2, t3, t4⟩ := top_p h hs h0
  have e5 : popM m s 5 (topM m s) = 5 := by unfold popM; rw [mset_ne (Or.inl (by decide)), mset_same]
  have e6 : popM m s 6 (topM m s) = -4 := by unfold popM; rw [mset_same]
  have eo : ∀ k, k ≠ 5 → k ≠ 6 → k ≠ 8 → k ≠ 13 → popM m s k = m k := fun k a b d e => by
    unfold popM
    rw [mset_cell (fun q => b q.symm), mset_cell (fun q => a q.symm), mset_cell (fun q => d q.symm), mset_cell (fun q => e q.symm)]
  have e56 : ∀ q, q ≠ topM m s → popM m s 5 q = m 5 q ∧ popM m s 6 q = m 6 q := fun q hq => by
    unfold popM
    refine ⟨?_, ?_⟩
    · rw [mset_ne (Or.inl (by decide)), mset_ne (Or.inr hq), mset_ne (Or.inl (by decide)), mset_ne (Or.inl (by decide))]
    · rw [mset_ne (Or.inr hq), mset_ne (Or.inl (by decide)), mset_ne (Or.inl (by decide)), mset_ne (Or.inl (by decide))]
  refine P_place (p := topM m s) (v := -4) h t2 (fun k a b d e _ => eo k a b d e) (by omega) (by omega) (by rw [e5]; decide) (by rw [e5]; decide) e6 (by omega) e56 (fun q => ?_) ?_
  · unfold popM
    rw [mset_ne (Or.inl (by decide)), mset_ne (Or.inl (by decide))]
    by_cases e : q = topM m s
    · rw [e, mset_same]; exact Or.inr (Or.inl rfl)
    · rw [mset_ne (Or.inr e), mset_ne (Or.inl (by decide))]; exact Or.inl rfl
  · refine Y_off h hs h0 (by rw [eo 0 (by decide) (by decide) (by decide) (by decide)]) (eo 14 (by decide) (by decide) (by decide) (by decide)) (fun q _ => ?_) e56 (by rw [e5]; decide)
    unfold popM
    rw [mset_ne (Or.inl (by decide)), mset_ne (Or.inl (by decide)), mset_ne (Or.inl (by decide))]
    by_cases e : q = s
    · rw [e, mset_same, if_pos rfl]
    · rw [mset_ne (Or.inr e), if_neg e]
theorem P_clr {c s : Nat} (hs : s < 5) : ∀ (f : Nat) (m : Mem), IM c m → IM c (clrM s f m) := by
  intro f
  induction f with
  | zero => intro m h; exact h
  | succ f ih =>
    intro m h
    unfold clrM
    by_cases e : 0 < m 13 s ∧ m 8 (topM m s) = 1
    · rw [if_pos e]; exact ih _ (P_pop h hs e.1)
    · rw [if_neg e]; exact h
theorem P_mv {c f t h : Nat} {m : Mem} (hM : IM c m) (hf : f < 5) (ht : t < 5) (hne : f ≠ t) (h0 : 0 < m 13 f) (hh : m 13 t = (h : Int)) (h4 : h < 4) : IM c (layM (mset m 13 f (m 13 f - 1)) (topM m f) t h) := by
  obtain ⟨t1, t2, t3, t4⟩ := top_p hM hf h0
  have h' := hM
  obtain ⟨⟨p1, p2, p3⟩, s', hb, ⟨y1, y2, y3⟩, hl⟩ := hM
  have r5 : (mset m 13 f (m 13 f - 1)) 5 = m 5 := mset_cell (by decide)
  have r6 : (mset m 13 f (m 13 f - 1)) 6 = m 6 := mset_cell (by decide)
  have r14 : (mset m 13 f (m 13 f - 1)) 14 = m 14 := mset_cell (by decide)
  have e5 : ∀ r, layM (mset m 13 f (m 13 f - 1)) (topM m f) t h 5 r = m 5 r := fun r => by
    rw [lay_5, r5]
    by_cases e : r = topM m f
    · rw [if_pos e, e, t3]
    · rw [if_neg e]
  have e6 : ∀ r, layM (mset m 13 f (m 13 f - 1)) (topM m f) t h 6 r = if r = topM m f then (t : Int) else m 6 r := fun r => by rw [lay_6, r6]
  have e13 : ∀ r, layM (mset m 13 f (m 13 f - 1)) (topM m f) t h 13 r = if r = t then (h : Int) + 1 else if r = f then m 13 f - 1 else m 13 r := fun r => by
    rw [lay_13]
    by_cases e : r = t
    · rw [if_pos e, if_pos e]
    · rw [if_neg e, if_neg e]
      by_cases e2 : r = f
      · rw [if_pos e2, e2, mset_same]
      · rw [if_neg e2, mset_ne (Or.inr e2)]
  have e14 : ∀ r, layM (mset m 13 f (m 13 f - 1)) (topM m f) t h 14 r = if r = 4 * t + h then (topM m f : Int) else m 14 r := fun r => by rw [lay_14, r14]
  have er : ∀ k, k ≠ 5 → k ≠ 6 → k ≠ 13 → k ≠ 14 → layM (mset m 13 f (m 13 f - 1)) (topM m f) t h k = m k := fun k a b d e => by
    rw [lay_o a b d e, mset_cell (fun q => d q.symm)]
  refine P_place (p := topM m f) (v := (t : Int)) h' t2 (fun k a b _ d e => er k a b d e) (by omega) (by omega) (by rw [e5, t3]; decide) (by rw [e5, t3]; decide) (by rw [e6, if_pos rfl]) (by omega) (fun r e => ⟨e5 r, by rw [e6, if_neg e]⟩) (fun r => Or.inl (by rw [er 8 (by decide) (by decide) (by decide) (by decide)])) ?_
  have e0 := er 0 (by decide) (by decide) (by decide) (by decide)
  refine ⟨fun u hu => ?_, fun r hr h3 => ?_, ?_⟩
  · obtain ⟨a1, a2, a3⟩ := y1 u hu
    rw [e13, e0]
    -- an old entry of u that is not the top of f
    have old : ∀ k : Nat, (k : Int) < m 13 u → (m 14 (4 * u + k)).toNat ≠ topM m f → u ≠ t ∨ k ≠ h → 0 ≤ layM (mset m 13 f (m 13 f - 1)) (topM m f) t h 14 (4 * u + k) ∧ layM (mset m 13 f (m 13 f - 1)) (topM m f) t h 14 (4 * u + k) < m 0 0 ∧ layM (mset m 13 f (m 13 f - 1)) (topM m f) t h 5 (layM (mset m 13 f (m 13 f - 1)) (topM m f) t h 14 (4 * u + k)).toNat = 3 ∧ layM (mset m 13 f (m 13 f - 1)) (topM m f) t h 6 (layM (mset m 13 f (m 13 f - 1)) (topM m f) t h 14 (4 * u + k)).toNat = (u : Int) := fun k hk hn ho => by
      rw [e14, if_neg (by omega), e5, e6, if_neg hn]
      exact a2 k hk
    by_cases e : u = t
    · subst e
      rw [if_pos rfl]
      have hneq : ∀ k : Nat, (k : Int) < m 13 u → (m 14 (4 * u + k)).toNat ≠ topM m f := fun k hk e2 => by
        have := (a2 k hk).2.2.2
        rw [e2, t4] at this
        omega
      refine ⟨by omega, fun k hk => ?_, fun k k' hk hk' => ?_⟩
      · by_cases e2 : k = h
        · rw [e14, if_pos (by omega), show ((topM m f : Nat) : Int).toNat = topM m f from rfl, e5, e6, if_pos rfl]
          exact ⟨by omega, t2, t3, rfl⟩
        · exact old k (by omega) (hneq k (by omega)) (Or.inr e2)
      · rw [e14, e14]
        by_cases e2 : k = h
        · by_cases e3 : k' = h
          · intro _; omega
          · rw [if_pos (by omega), if_neg (by omega)]
            intro e4
            exact absurd (show (m 14 (4 * u + k')).toNat = topM m f by rw [← e4]; rfl) (hneq k' (by omega))
        · by_cases e3 : k' = h
          · rw [if_neg (by omega), if_pos (by omega)]
            intro e4
            exact absurd (show (m 14 (4 * u + k)).toNat = topM m f by rw [e4]; rfl) (hneq k (by omega))
          · rw [if_neg (by omega), if_neg (by omega)]
            exact a3 k k' (by omega) (by omega)
    · rw [if_neg e]
      by_cases e1 : u = f
      · subst e1
        rw [if_pos rfl]
        refine ⟨by omega, fun k hk => old k (by omega) (fun e2 => ?_) (Or.inl e), fun k k' hk hk' => ?_⟩
        · have h9 : m 14 (4 * u + k) = m 14 (4 * u + ((m 13 u).toNat - 1)) := by rw [t1]; have := (a2 k (by omega)).1; omega
          have := a3 k ((m 13 u).toNat - 1) (by omega) (by omega) h9
          omega
        · rw [e14, e14, if_neg (by omega), if_neg (by omega)]
          exact a3 k k' (by omega) (by omega)
      · rw [if_neg e1]
        refine ⟨a1, fun k hk => old k hk (fun e2 => ?_) (Or.inl e), fun k k' hk hk' => ?_⟩
        · have := (a2 k hk).2.2.2
          rw [e2, t4] at this
          omega
        · rw [e14, e14, if_neg (by omega), if_neg (by omega)]
          exact a3 k k' hk hk'
  · rw [e6]
    by_cases e : r = topM m f
    · rw [if_pos e]; omega
    · rw [if_neg e]
      rw [e5] at h3
      rw [e0] at hr
      exact y2 r hr h3
  · have hc : cntW (layM (mset m 13 f (m 13 f - 1)) (topM m f) t h) 3 (m 0 0).toNat = cntW m 3 (m 0 0).toNat := cntW_cg2 (m 0 0).toNat 0 (fun q _ => by rw [e5]) (fun q a b => absurd a (by omega))
    have h1 := ht_set (m := m) (m' := mset m 13 f (m 13 f - 1)) (v := m 13 f - 1) (s := f) hf (fun q _ => by
      by_cases e : q = f
      · rw [e, mset_same, if_pos rfl]
      · rw [mset_ne (Or.inr e), if_neg e])
    have h2 := ht_set (m := mset m 13 f (m 13 f - 1)) (m' := layM (mset m 13 f (m 13 f - 1)) (topM m f) t h) (v := (h : Int) + 1) (s := t) ht (fun q _ => lay_13)
    rw [mset_ne (Or.inr (fun q => hne q.symm))] at h2
    unfold ht5 at h1 h2
    rw [e0, hc, h2, h1]
    omega
theorem P_move {c : Nat} {m : Mem} {f t : Int} (h : IM c m) : IM (c + 1) (spMove m f t).2 := by
  unfold spMove
  by_cases hz : (0 ≤ f ∧ f < 5) ∧ (0 ≤ t ∧ t < 5) ∧ f ≠ t
  rotate_left
  · rw [if_neg hz]; exact IM_up h
  rw [if_pos hz]
  by_cases h2 : m 13 f.toNat = 0
  · rw [if_pos h2]; exact IM_up h
  rw [if_neg h2]
  by_cases h4 : m 13 t.toNat = 4
  · rw [if_pos h4]; exact IM_up h
  rw [if_neg h4]
  have b1 := (h.2.2.2.1.1 f.toNat (by omega)).1
  have b2 := (h.2.2.2.1.1 t.toNat (by omega)).1
  exact IM_up (P_clr (by omega) 4 _ (P_mv h (by omega) (by omega) (by omega) (by omega) (by omega) (by omega)))
theorem P_garb {c : Nat} {m : Mem} {v : Int} (h : IM c m) : IM c (mset m 15 (m 0 17).toNat v) := by
  obtain ⟨p, s, hb, hy, hl⟩ := h
  have er : ∀ k, k ≠ 15 → mset m 15 (m 0 17).toNat v k = m k := fun k h1 => mset_cell (fun q => h1 q.symm)
  refine ⟨?_, ?_, ?_, ?_, ?_⟩
  · unfold IMp; rw [er 0 (by decide), er 1 (by decide), er 2 (by decide), er 3 (by decide), er 4 (by decide), er 5 (by decide), er 6 (by decide), er 7 (by decide), er 8 (by decide)]; exact p
  · unfold IMs; rw [er 0 (by decide), er 17 (by decide)]; exact s
  · unfold IMb; rw [er 0 (by decide), er 9 (by decide), er 10 (by decide), er 11 (by decide), er 12 (by decide), er 5 (by decide), er 6 (by decide)]; exact hb
  · exact IMy_cg hy p.1.1 (by rw [er 0 (by decide)]; exact Int.le_refl _) ⟨er 13 (by decide), er 14 (by decide)⟩ (fun q _ a => by rw [er 5 (by decide), er 6 (by decide)]; exact ⟨a, rfl⟩) (fun q a b => by rw [er 5 (by decide)] at b; rw [er 0 (by decide)] at a; rw [er 6 (by decide)]; exact ⟨a, b, rfl⟩)
  · exact IMl_cg hl (by rw [er 0 (by decide)]) (by rw [er 0 (by decide)]; exact Int.le_refl _) (fun k hk => mset_ne (Or.inr (by omega))) (fun q _ a => by rw [er 5 (by decide), er 3 (by decide)]; exact ⟨a, rfl⟩)
theorem P_ld {c s : Nat} {m : Mem} (h : IM c m) (hs : s < 5) (h0 : 0 < m 13 s) (h4 : m 0 17 ≠ 4) (g1 : heavyK m (m 0 17).toNat + m 3 (topM m s) ≤ 120) (g2 : frontK m (m 0 17).toNat + m 3 (topM m s) * (8 - 2 * m 0 17) ≤ 720) (g3 : rearK m (m 0 17).toNat + m 3 (topM m s) * (2 * m 0 17 + 1) ≤ 720) : IM c (ldM m s) := by
  obtain ⟨t1, t2, t3, t4⟩ := top_p h hs h0
  have h' := h
  obtain ⟨⟨p1, p2, p3⟩, ⟨s1, s2, s3, s4⟩, hb, hy, hl⟩ := h
  obtain ⟨l1, l2, l3, l4, l5⟩ := hl
  obtain ⟨hh, hhe⟩ : ∃ hh : Nat, m 0 17 = (hh : Int) := ⟨(m 0 17).toNat, by omega⟩
  rw [hhe, show ((hh : Int)).toNat = hh from rfl] at g1 g2 g3
  have hld : ldM m s = mset (mset (mset (mset (mset m 15 hh (topM m s)) 0 17 ((hh : Int) + 1)) 13 s (m 13 s - 1)) 5 (topM m s) 6) 6 (topM m s) (-4) := by
    unfold ldM ltkM
    rw [hhe]
    rfl
  rw [hld]
  generalize hm' : mset (mset (mset (mset (mset m 15 hh (topM m s)) 0 17 ((hh : Int) + 1)) 13 s (m 13 s - 1)) 5 (topM m s) 6) 6 (topM m s) (-4) = m'
  have er : ∀ k, k ≠ 0 → k ≠ 5 → k ≠ 6 → k ≠ 13 → k ≠ 15 → m' k = m k := fun k a b d e f => by
    rw [← hm', mset_cell (fun q => d q.symm), mset_cell (fun q => b q.symm), mset_cell (fun q => e q.symm), mset_cell (fun q => a q.symm), mset_cell (fun q => f q.symm)]
  have e0 : ∀ j, j ≠ 17 → m' 0 j = m 0 j := fun j a => by
    rw [← hm', mset_cell (by decide), mset_cell (by decide), mset_cell (by decide), mset_ne (Or.inr a), mset_cell (by decide)]
  have e17 : m' 0 17 = (hh : Int) + 1 := by rw [← hm', mset_cell (by decide), mset_cell (by decide), mset_cell (by decide), mset_same]
  have e5 : m' 5 (topM m s) = 6 := by rw [← hm', mset_cell (by decide), mset_same]
  have e6 : m' 6 (topM m s) = -4 := by rw [← hm', mset_same]
  have e56 : ∀ q, q ≠ topM m s → m' 5 q = m 5 q ∧ m' 6 q = m 6 q := fun q hq => by
    rw [← hm']
    refine ⟨?_, ?_⟩
    · rw [mset_cell (by decide), mset_ne (Or.inr hq), mset_cell (by decide), mset_cell (by decide), mset_cell (by decide)]
    · rw [mset_ne (Or.inr hq), mset_cell (by decide), mset_cell (by decide), mset_cell (by decide), mset_cell (by decide)]
  have e15 : ∀ k, m' 15 k = if k = hh then (topM m s : Int) else m 15 k := fun k => by
    rw [← hm', mset_cell (by decide), mset_cell (by decide), mset_cell (by decide), mset_cell (by decide)]
    by_cases e : k = hh
    · rw [e, mset_same, if_pos rfl]
    · rw [mset_ne (Or.inr e), if_neg e]
  have e13 : ∀ q, m' 13 q = if q = s then m 13 s - 1 else m 13 q := fun q => by
    rw [← hm', mset_cell (by decide), mset_cell (by decide)]
    by_cases e : q = s
    · rw [e, mset_same, if_pos rfl]
    · rw [mset_ne (Or.inr e), mset_cell (by decide), mset_cell (by decide), if_neg e]
  have e00 := e0 0 (by decide)
  have e1 := er 1 (by decide) (by decide) (by decide) (by decide) (by decide)
  have e2 := er 2 (by decide) (by decide) (by decide) (by decide) (by decide)
  have e3 := er 3 (by decide) (by decide) (by decide) (by decide) (by decide)
  have e4 := er 4 (by decide) (by decide) (by decide) (by decide) (by decide)
  have e7 := er 7 (by decide) (by decide) (by decide) (by decide) (by decide)
  have e8 := er 8 (by decide) (by decide) (by decide) (by decide) (by decide)
  refine ⟨⟨by rw [e00]; exact p1, fun i hi => ?_, fun i hi hi40 => ?_⟩, ⟨by rw [e0 14 (by decide)]; exact s1, by rw [e0 13 (by decide)]; exact s2, by rw [e0 19 (by decide)]; exact s3, by rw [er 17 (by decide) (by decide) (by decide) (by decide) (by decide)]; exact s4⟩, ?_, ?_, ?_⟩
  · rw [e00] at hi
    have := p2 i hi
    rw [e1, e2, e3, e4, e8]
    by_cases e : i = topM m s
    · rw [e, e5, e6]
      rw [e] at this
      exact ⟨this.1, this.2.1, this.2.2.1, this.2.2.2.1, by decide, by omega, this.2.2.2.2.2.2⟩
    · rw [(e56 i e).1, (e56 i e).2]; exact this
  · rw [e00] at hi
    rw [e7, e8]
    exact p3 i hi hi40
  · refine IMb_cg hb (e0 14 (by decide)) (by rw [e00]; exact Int.le_refl _) (fun k a b => er k (by omega) (by omega) (by omega) (by omega) (by omega)) (fun q _ a => ?_) (fun q a b => ?_)
    · have hne : q ≠ topM m s := fun e => by rw [e, t3] at a; exact absurd a (by decide)
      rw [(e56 q hne).1, (e56 q hne).2]; exact ⟨a, rfl⟩
    · have hne : q ≠ topM m s := fun e => by rw [e, e5] at b; exact absurd b (by decide)
      rw [(e56 q hne).1] at b
      rw [e00] at a
      exact ⟨a, b, (e56 q hne).2⟩
  · exact Y_off h' hs h0 e00 (er 14 (by decide) (by decide) (by decide) (by decide) (by decide)) (fun q _ => e13 q) e56 (by rw [e5]; decide)
  · have hk : ∀ k, k < hh → m' 15 k = m 15 k ∧ m' 3 (m 15 k).toNat = m 3 (m 15 k).toNat := fun k hk => by
      rw [e15, if_neg (by omega), e3]; exact ⟨rfl, rfl⟩
    have etop : m' 3 (m' 15 hh).toNat = m 3 (topM m s) := by rw [e15, if_pos rfl, e3]; rfl
    refine ⟨by rw [e17]; omega, fun k hk' => ?_, ?_, ?_, ?_⟩
    · rw [e17] at hk'
      rw [e15, e00]
      by_cases e : k = hh
      · rw [if_pos e, show ((topM m s : Nat) : Int).toNat = topM m s from rfl, e5]
        exact ⟨by omega, t2, rfl⟩
      · rw [if_neg e]
        obtain ⟨a1, a2, a3⟩ := l2 k (by omega)
        refine ⟨a1, a2, ?_⟩
        have hne : (m 15 k).toNat ≠ topM m s := fun e2 => by rw [e2, t3] at a3; exact absurd a3 (by decide)
        rw [(e56 _ hne).1]; exact a3
    · rw [e17, show ((hh : Int) + 1).toNat = hh + 1 from rfl]
      show heavyK m' hh + m' 3 (m' 15 hh).toNat ≤ 120
      rw [heavyK_cg hk, etop]; exact g1
    · rw [e17, show ((hh : Int) + 1).toNat = hh + 1 from rfl]
      show frontK m' hh + m' 3 (m' 15 hh).toNat * (8 - 2 * (hh : Int)) ≤ 720
      rw [frontK_cg hk, etop]; exact g2
    · rw [e17, show ((hh : Int) + 1).toNat = hh + 1 from rfl]
      show rearK m' hh + m' 3 (m' 15 hh).toNat * (2 * (hh : Int) + 1) ≤ 720
      rw [rearK_cg hk, etop]; exact g3
theorem P_load {c : Nat} {m : Mem} {s : Int} (h : IM c m) : IM (c + 1) (spLoad m s).2 := by
  unfold spLoad
  by_cases hz : 0 ≤ s ∧ s < 5
  rotate_left
  · rw [if_neg hz]; exact IM_up h
  rw [if_pos hz]
  by_cases h2 : m 13 s.toNat = 0
  · rw [if_pos h2]; exact IM_up h
  rw [if_neg h2]
  by_cases h4 : m 0 17 = 4
  · rw [if_pos h4]; exact IM_up h
  rw [if_neg h4]
  have b1 := (h.2.2.2.1.1 s.toNat (by omega)).1
  by_cases hg : heavyK m (m 0 17).toNat + m 3 (topM m s.toNat) ≤ 120 ∧ frontK m (m 0 17).toNat + m 3 (topM m s.toNat) * (8 - 2 * m 0 17) ≤ 720 ∧ rearK m (m 0 17).toNat + m 3 (topM m s.toNat) * (2 * m 0 17 + 1) ≤ 720
  · rw [if_pos hg]
    exact IM_up (P_clr (by omega) 4 _ (P_ld h (by omega) (by omega) h4 hg.1 hg.2.1 hg.2.2))
  · rw [if_neg hg]
    exact IM_up (P_garb h)
theorem P_bit {c p : Nat} {m : Mem} (h : IM c m) (hp : (p : Int) < m 0 0) : IM c (mset m 8 p 1) := by
  obtain ⟨⟨p1, p2, p3⟩, s, hb, hy, hl⟩ := h
  have er : ∀ k, k ≠ 8 → mset m 8 p 1 k = m k := fun k h1 => mset_cell (fun q => h1 q.symm)
  refine ⟨⟨by rw [er 0 (by decide)]; exact p1, fun i hi => ?_, fun i hi hi40 => ?_⟩, ?_, ?_, ?_, ?_⟩
  · rw [er 0 (by decide)] at hi
    have := p2 i hi
    rw [er 1 (by decide), er 2 (by decide), er 3 (by decide), er 4 (by decide), er 5 (by decide), er 6 (by decide)]
    refine ⟨this.1, this.2.1, this.2.2.1, this.2.2.2.1, this.2.2.2.2.1, this.2.2.2.2.2.1, ?_⟩
    by_cases e : i = p
    · rw [e, mset_same]; exact Or.inr rfl
    · rw [mset_ne (Or.inr e)]; exact this.2.2.2.2.2.2
  · rw [er 0 (by decide)] at hi
    rw [er 7 (by decide), mset_ne (Or.inr (by omega))]
    exact p3 i hi hi40
  · unfold IMs; rw [er 0 (by decide), er 17 (by decide)]; exact s
  · unfold IMb; rw [er 0 (by decide), er 9 (by decide), er 10 (by decide), er 11 (by decide), er 12 (by decide), er 5 (by decide), er 6 (by decide)]; exact hb
  · exact IMy_cg hy p1.1 (by rw [er 0 (by decide)]; exact Int.le_refl _) ⟨er 13 (by decide), er 14 (by decide)⟩ (fun q _ a => by rw [er 5 (by decide), er 6 (by decide)]; exact ⟨a, rfl⟩) (fun q a b => by rw [er 5 (by decide)] at b; rw [er 0 (by decide)] at a; rw [er 6 (by decide)]; exact ⟨a, b, rfl⟩)
  · exact IMl_cg hl (by rw [er 0 (by decide)]) (by rw [er 0 (by decide)]; exact Int.le_refl _) (fun k _ => by rw [er 15 (by decide)]) (fun q _ a => by rw [er 5 (by decide), er 3 (by decide)]; exact ⟨a, rfl⟩)
theorem P_strk {c p : Nat} {m : Mem} (h : IM c m) (hp : (p : Int) < m 0 0) : IM c (strkM m p) := by
  unfold strkM
  by_cases h2 : m 5 p = 2
  · rw [if_pos h2]
    have e5 : mset (mset m 5 p 5) 6 p (-4) 5 p = 5 := by rw [mset_cell (by decide), mset_same]
    have er : ∀ k, k ≠ 5 → k ≠ 6 → mset (mset m 5 p 5) 6 p (-4) k = m k := fun k a b => by rw [mset_cell (fun q => b q.symm), mset_cell (fun q => a q.symm)]
    have e56 : ∀ q, q ≠ p → mset (mset m 5 p 5) 6 p (-4) 5 q = m 5 q ∧ mset (mset m 5 p 5) 6 p (-4) 6 q = m 6 q := fun q hq => by
      refine ⟨?_, ?_⟩
      · rw [mset_cell (by decide), mset_ne (Or.inr hq)]
      · rw [mset_ne (Or.inr hq), mset_cell (by decide)]
    refine P_place (p := p) (v := -4) h hp (fun k a b _ _ _ => er k a b) (by omega) (by omega) (by rw [e5]; decide) (by rw [e5]; decide) mset_same (by omega) e56 (fun q => Or.inl (by rw [er 8 (by decide) (by decide)])) ?_
    refine IMy_cg h.2.2.2.1 h.1.1.1 (by rw [er 0 (by decide) (by decide)]; exact Int.le_refl _) ⟨er 13 (by decide) (by decide), er 14 (by decide) (by decide)⟩ (fun q _ a => ?_) (fun q a b => ?_)
    · have hne : q ≠ p := fun e => by rw [e, h2] at a; exact absurd a (by decide)
      rw [(e56 q hne).1, (e56 q hne).2]; exact ⟨a, rfl⟩
    · have hne : q ≠ p := fun e => by rw [e, e5] at b; exact absurd b (by decide)
      rw [(e56 q hne).1] at b
      rw [er 0 (by decide) (by decide)] at a
      exact ⟨a, b, (e56 q hne).2⟩
  · rw [if_neg h2]
    by_cases h3 : m 5 p = 3
    · rw [if_pos h3]
      have := h.2.2.2.1.2.1 p hp h3
      exact P_clr (by omega) 4 _ (P_bit h hp)
    · rw [if_neg h3]; exact P_bit h hp
theorem P_change {c : Nat} {m : Mem} {p l pl w : Int} (h : IM c m) : IM (c + 1) (spChange m p l pl w).2 := by
  unfold spChange
  by_cases hz : (0 ≤ p ∧ p < m 0 0) ∧ areM l pl w
  rotate_left
  · rw [if_neg hz]; exact IM_up h
  rw [if_pos hz]
  by_cases h1 : m 5 p.toNat = 4 ∨ m 5 p.toNat = 6 ∨ m 5 p.toNat = 5 ∨ m 8 p.toNat = 1
  · rw [if_pos h1]; exact IM_up h
  rw [if_neg h1]
  by_cases h2 : m 1 p.toNat = l ∧ m 2 p.toNat = pl ∧ m 3 p.toNat = w
  · rw [if_pos h2]; exact IM_up h
  rw [if_neg h2]
  by_cases h3 : m 5 p.toNat = 0
  · rw [if_pos h3]; exact IM_up (P_gets h (by omega) hz.2 (by omega))
  rw [if_neg h3]
  by_cases h4 : m 2 p.toNat = pl ∧ l < m 1 p.toNat ∧ w ≤ m 3 p.toNat
  · rw [if_pos h4]
    by_cases h5 : m 5 p.toNat = 2
    · rw [if_pos h5]; exact IM_up (P_gets h (by omega) hz.2 (by omega))
    · rw [if_neg h5]; exact IM_up h
  rw [if_neg h4]
  by_cases h6 : m 0 0 = 40
  · rw [if_pos h6]; exact IM_up h
  rw [if_neg h6]
  have b := h.1.1
  have hq := (h.1.2.1 p.toNat (by omega)).2.2.2.1
  refine IM_up (P_strk (P_new h (by omega) (by omega) hz.2 hq) ?_)
  unfold newM
  rw [mset_same]
  omega
