/-! the yard as turns: five piles, each a list with its top first -/
def yup (Y : Nat → List Int) (s : Nat) (l : List Int) : Nat → List Int := fun q => if q = s then l else Y q
theorem yup_eq {Y : Nat → List Int} {s : Nat} {l : List Int} : yup Y s l s = l := by unfold yup; rw [if_pos rfl]
theorem yup_ne {Y : Nat → List Int} {s q : Nat} {l : List Int} (h : q ≠ s) : yup Y s l q = Y q := by unfold yup; rw [if_neg h]
def mvY (Y : Nat → List Int) (s d : Nat) (x : Int) (r : List Int) : Nat → List Int := yup (yup Y s r) d (x :: Y d)
def Sol (n : Nat) : Nat → Nat → Nat → (Nat → List Int) → Prop
  | 0, _, _, _ => False
  | f + 1, k, t, Y => t = n ∨ (t < n ∧ ∃ s r, s < 5 ∧ Y s = (t : Int) :: r ∧ Sol n f k (t + 1) (yup Y s r)) ∨
      (t < n ∧ ∃ k' s x r d, k = k' + 1 ∧ s < 5 ∧ d < 5 ∧ d ≠ s ∧ Y s = x :: r ∧ (t : Int) ∈ r ∧ (Y d).length < 4 ∧ Sol n f k' t (mvY Y s d x r))
def Dg (n k t : Nat) (Y : Nat → List Int) : Prop := ∃ f, Sol n f k t Y
theorem Dg_done {n k : Nat} {Y : Nat → List Int} : Dg n k n Y := ⟨1, Or.inl rfl⟩
theorem Dg_take {n k t s : Nat} {Y : Nat → List Int} {r : List Int} (ht : t < n) (hs : s < 5) (h : Y s = (t : Int) :: r) (hd : Dg n k (t + 1) (yup Y s r)) : Dg n k t Y := by
  obtain ⟨f, hf⟩ := hd
  exact ⟨f + 1, Or.inr (Or.inl ⟨ht, s, r, hs, h, hf⟩)⟩
theorem Dg_move {n k t s d : Nat} {x : Int} {Y : Nat → List Int} {r : List Int} (ht : t < n) (hs : s < 5) (hd : d < 5) (hne : d ≠ s) (h : Y s = x :: r) (hm : (t : Int) ∈ r) (hl : (Y d).length < 4) (hg : Dg n k t (mvY Y s d x r)) : Dg n (k + 1) t Y := by
  obtain ⟨f, hf⟩ := hg
  exact ⟨f + 1, Or.inr (Or.inr ⟨ht, k, s, x, r, d, rfl, hs, hd, hne, h, hm, hl, hf⟩)⟩
def cnt5 (Y : Nat → List Int) (q : Int) : Nat := (Y 0).count q + (Y 1).count q + (Y 2).count q + (Y 3).count q + (Y 4).count q
def tot5 (Y : Nat → List Int) : Nat := (Y 0).length + (Y 1).length + (Y 2).length + (Y 3).length + (Y 4).length
theorem five {P : Nat → Prop} (h0 : P 0) (h1 : P 1) (h2 : P 2) (h3 : P 3) (h4 : P 4) : ∀ s, s < 5 → P s := by
  intro s hs
  match s, hs with
  | 0, _ => exact h0
  | 1, _ => exact h1
  | 2, _ => exact h2
  | 3, _ => exact h3
  | 4, _ => exact h4
theorem cnt_yup {Y : Nat → List Int} {q : Int} {l : List Int} : ∀ s, s < 5 → cnt5 (yup Y s l) q + (Y s).count q = cnt5 Y q + l.count q :=
  five (by simp [cnt5, yup]; omega) (by simp [cnt5, yup]; omega) (by simp [cnt5, yup]; omega) (by simp [cnt5, yup]; omega) (by simp [cnt5, yup]; omega)
theorem tot_yup {Y : Nat → List Int} {l : List Int} : ∀ s, s < 5 → tot5 (yup Y s l) + (Y s).length = tot5 Y + l.length :=
  five (by simp [tot5, yup]; omega) (by simp [tot5, yup]; omega) (by simp [tot5, yup]; omega) (by simp [tot5, yup]; omega) (by simp [tot5, yup]; omega)
theorem cnt_ge {Y : Nat → List Int} {q : Int} : ∀ s, s < 5 → (Y s).count q ≤ cnt5 Y q :=
  five (by unfold cnt5; omega) (by unfold cnt5; omega) (by unfold cnt5; omega) (by unfold cnt5; omega) (by unfold cnt5; omega)
theorem cnt_two {Y : Nat → List Int} {q : Int} {s s' : Nat} (hs : s < 5) (hs' : s' < 5) (hne : s ≠ s') : (Y s).count q + (Y s').count q ≤ cnt5 Y q := by
  have h1 := cnt_yup (Y := Y) (q := q) (l := []) s hs
  have h2 := cnt_ge (Y := yup Y s []) (q := q) s' hs'
  rw [yup_ne (fun h => hne h.symm)] at h2
  simp only [List.count_nil] at h1
  omega
def OY (n t : Nat) (Y : Nat → List Int) : Prop := n ≤ 6 ∧ t ≤ n ∧ (∀ s, s < 5 → (Y s).length ≤ 4) ∧ (∀ s, s < 5 → ∀ x ∈ Y s, ((t : Int) ≤ x ∧ x < (n : Int)) ∨ x = 6) ∧ ∀ q : Nat, t ≤ q → q < n → cnt5 Y (q : Int) = 1
theorem OY.uni {n t q s s' : Nat} {Y : Nat → List Int} (h : OY n t Y) (h1 : t ≤ q) (h2 : q < n) (hs : s < 5) (hs' : s' < 5) (hm : (q : Int) ∈ Y s) (hm' : (q : Int) ∈ Y s') : s = s' := by
  apply Classical.byContradiction
  intro hne
  have h3 := cnt_two (Y := Y) (q := (q : Int)) hs hs' hne
  have h4 := h.2.2.2.2 q h1 h2
  have h5 := List.count_pos_iff.mpr hm
  have h6 := List.count_pos_iff.mpr hm'
  omega
theorem OY.ex {n t q : Nat} {Y : Nat → List Int} (h : OY n t Y) (h1 : t ≤ q) (h2 : q < n) : ∃ s, s < 5 ∧ (q : Int) ∈ Y s := by
  have h4 := h.2.2.2.2 q h1 h2
  apply Classical.byContradiction
  intro hno
  have h5 : ∀ s, s < 5 → (Y s).count (q : Int) = 0 := fun s hs => List.count_eq_zero.mpr (fun hm => hno ⟨s, hs, hm⟩)
  unfold cnt5 at h4
  rw [h5 0 (by decide), h5 1 (by decide), h5 2 (by decide), h5 3 (by decide), h5 4 (by decide)] at h4
  omega
theorem OY.head {n t q s : Nat} {x : Int} {r : List Int} {Y : Nat → List Int} (h : OY n t Y) (h1 : t ≤ q) (h2 : q < n) (hs : s < 5) (hY : Y s = x :: r) (hm : (q : Int) ∈ r) : x ≠ (q : Int) := by
  intro e
  have h4 := h.2.2.2.2 q h1 h2
  have h5 := cnt_ge (Y := Y) (q := (q : Int)) s hs
  have h6 := List.count_pos_iff.mpr hm
  rw [hY, e, List.count_cons_self] at h5
  omega
theorem OY.take {n t s : Nat} {r : List Int} {Y : Nat → List Int} (h : OY n t Y) (ht : t < n) (hs : s < 5) (hY : Y s = (t : Int) :: r) : OY n (t + 1) (yup Y s r) := by
  have hno : ∀ s', s' < 5 → ∀ x ∈ yup Y s r s', x ≠ (t : Int) := fun s' hs' x hx e => by
    have h1 := h.2.2.2.2 t (Nat.le_refl t) ht
    have h2 := cnt_yup (Y := Y) (q := (t : Int)) (l := r) s hs
    have h3 := cnt_ge (Y := yup Y s r) (q := (t : Int)) s' hs'
    rw [e] at hx
    have h4 := List.count_pos_iff.mpr hx
    rw [hY, List.count_cons_self] at h2
    omega
  have hsub : ∀ s', s' < 5 → ∀ x ∈ yup Y s r s', x ∈ Y s' := fun s' _ x hx => by
    by_cases e : s' = s
    · rw [e, yup_eq] at hx; rw [e, hY]; exact List.mem_cons_of_mem _ hx
    · rw [yup_ne e] at hx; exact hx
  refine ⟨h.1, ht, fun s' hs' => ?_, fun s' hs' x hx => ?_, fun q h1 h2 => ?_⟩
  · by_cases e : s' = s
    · have := h.2.2.1 s hs
      rw [hY] at this
      rw [e, yup_eq]
      exact Nat.le_of_succ_le this
    · rw [yup_ne e]; exact h.2.2.1 s' hs'
  · have h1 := hno s' hs' x hx
    have h2 := h.2.2.2.1 s' hs' x (hsub s' hs' x hx)
    omega
  · have h3 := h.2.2.2.2 q (by omega) h2
    have h4 := cnt_yup (Y := Y) (q := (q : Int)) (l := r) s hs
    rw [hY, List.count_cons_of_ne (by omega)] at h4
    omega
theorem OY.move {n t s d : Nat} {x : Int} {r : List Int} {Y : Nat → List Int} (h : OY n t Y) (hs : s < 5) (hd : d < 5) (hne : d ≠ s) (hY : Y s = x :: r) (hl : (Y d).length < 4) : OY n t (mvY Y s d x r) := by
  refine ⟨h.1, h.2.1, fun s' hs' => ?_, fun s' hs' y hy => ?_, fun q h1 h2 => ?_⟩
  · unfold mvY
    by_cases e : s' = d
    · rw [e, yup_eq]; exact hl
    · rw [yup_ne e]
      by_cases e2 : s' = s
      · have := h.2.2.1 s hs
        rw [hY] at this
        rw [e2, yup_eq]
        exact Nat.le_of_succ_le this
      · rw [yup_ne e2]; exact h.2.2.1 s' hs'
  · unfold mvY at hy
    by_cases e : s' = d
    · rw [e, yup_eq] at hy
      rcases List.mem_cons.mp hy with e3 | e3
      · exact h.2.2.2.1 s hs y (by rw [hY, e3]; exact List.mem_cons_self)
      · exact h.2.2.2.1 d hd y e3
    · rw [yup_ne e] at hy
      by_cases e2 : s' = s
      · rw [e2, yup_eq] at hy
        exact h.2.2.2.1 s hs y (by rw [hY]; exact List.mem_cons_of_mem _ hy)
      · rw [yup_ne e2] at hy
        exact h.2.2.2.1 s' hs' y hy
  · have h3 := h.2.2.2.2 q h1 h2
    have h4 := cnt_yup (Y := Y) (q := (q : Int)) (l := r) s hs
    have h5 := cnt_yup (Y := yup Y s r) (q := (q : Int)) (l := x :: Y d) d hd
    rw [yup_ne hne] at h5
    rw [hY] at h4
    unfold mvY
    simp only [List.count_cons] at h4 h5
    omega
theorem tot_take {s : Nat} {x : Int} {r : List Int} {Y : Nat → List Int} (hs : s < 5) (hY : Y s = x :: r) : tot5 (yup Y s r) + 1 = tot5 Y := by
  have := tot_yup (Y := Y) (l := r) s hs
  rw [hY, List.length_cons] at this
  omega
theorem tot_move {s d : Nat} {x : Int} {r : List Int} {Y : Nat → List Int} (hs : s < 5) (hd : d < 5) (hne : d ≠ s) (hY : Y s = x :: r) : tot5 (mvY Y s d x r) = tot5 Y := by
  have h1 := tot_take hs hY
  have h2 := tot_yup (Y := yup Y s r) (l := x :: Y d) d hd
  rw [yup_ne hne, List.length_cons] at h2
  unfold mvY
  omega
/-! what must be -/
theorem Dg_top {n k t s : Nat} {r : List Int} {Y : Nat → List Int} (h : OY n t Y) (ht : t < n) (hs : s < 5) (hY : Y s = (t : Int) :: r) : Dg n k t Y ↔ Dg n k (t + 1) (yup Y s r) := by
  refine ⟨fun hd => ?_, fun hd => Dg_take ht hs hY hd⟩
  obtain ⟨f, hf⟩ := hd
  match f, hf with
  | f + 1, hf =>
    have hms : (t : Int) ∈ Y s := by rw [hY]; exact List.mem_cons_self
    rcases hf with h1 | ⟨-, s', r', hs', hY', h2⟩ | ⟨-, k', s', x, r', d, hk, hs', hd, hne, hY', hm, hl, h2⟩
    · omega
    · have e : s = s' := h.uni (Nat.le_refl t) ht hs hs' hms (by rw [hY']; exact List.mem_cons_self)
      subst e
      rw [hY] at hY'
      obtain ⟨-, e2⟩ := List.cons.inj hY'
      rw [e2]
      exact ⟨f, h2⟩
    · have e : s = s' := h.uni (Nat.le_refl t) ht hs hs' hms (by rw [hY']; exact List.mem_cons_of_mem _ hm)
      subst e
      have h3 := h.head (Nat.le_refl t) ht hs hY' hm
      rw [hY] at hY'
      obtain ⟨e1, -⟩ := List.cons.inj hY'
      exact absurd e1.symm h3
theorem Dg_dig {n k t s : Nat} {x : Int} {r : List Int} {Y : Nat → List Int} (h : OY n t Y) (ht : t < n) (hs : s < 5) (hY : Y s = x :: r) (hm : (t : Int) ∈ r) : Dg n k t Y ↔ ∃ k' d, k = k' + 1 ∧ d < 5 ∧ d ≠ s ∧ (Y d).length < 4 ∧ Dg n k' t (mvY Y s d x r) := by
  refine ⟨fun hd => ?_, fun ⟨k', d, hk, hd, hne, hl, hg⟩ => by rw [hk]; exact Dg_move ht hs hd hne hY hm hl hg⟩
  obtain ⟨f, hf⟩ := hd
  match f, hf with
  | f + 1, hf =>
    have hms : (t : Int) ∈ Y s := by rw [hY]; exact List.mem_cons_of_mem _ hm
    rcases hf with h1 | ⟨-, s', r', hs', hY', h2⟩ | ⟨-, k', s', x', r', d, hk, hs', hd, hne, hY', hm', hl, h2⟩
    · omega
    · have e : s = s' := h.uni (Nat.le_refl t) ht hs hs' hms (by rw [hY']; exact List.mem_cons_self)
      subst e
      have h3 := h.head (Nat.le_refl t) ht hs hY hm
      rw [hY] at hY'
      obtain ⟨e1, -⟩ := List.cons.inj hY'
      exact absurd e1 h3
    · have e : s = s' := h.uni (Nat.le_refl t) ht hs hs' hms (by rw [hY']; exact List.mem_cons_of_mem _ hm')
      subst e
      rw [hY] at hY'
      obtain ⟨e1, e2⟩ := List.cons.inj hY'
      subst e1 e2
      exact ⟨k', d, hk, hd, hne, hl, f, h2⟩
theorem Sol_mono {n : Nat} : ∀ f k t Y, Sol n f k t Y → Sol n f (k + 1) t Y := by
  intro f
  induction f with
  | zero => intro k t Y h; exact h
  | succ f ih =>
    intro k t Y h
    rcases h with h1 | ⟨ht, s', r', hs', hY', h2⟩ | ⟨ht, k', s', x', r', d, hk, hs', hd, hne, hY', hm', hl, h2⟩
    · exact Or.inl h1
    · exact Or.inr (Or.inl ⟨ht, s', r', hs', hY', ih _ _ _ h2⟩)
    · exact Or.inr (Or.inr ⟨ht, k' + 1, s', x', r', d, by omega, hs', hd, hne, hY', hm', hl, ih _ _ _ h2⟩)
theorem Dg_up {n k t : Nat} {Y : Nat → List Int} (h : Dg n k t Y) : ∀ e, Dg n (k + e) t Y := by
  intro e
  induction e with
  | zero => exact h
  | succ e ih => obtain ⟨f, hf⟩ := ih; exact ⟨f, Sol_mono f _ _ _ hf⟩
/-! what is above -/
def abv (q : Int) : List Int → Nat
  | [] => 0
  | x :: r => if x = q then 0 else abv q r + 1
theorem abv_lt {q : Int} : ∀ l : List Int, q ∈ l → abv q l < l.length := by
  intro l
  induction l with
  | nil => intro h; exact absurd h List.not_mem_nil
  | cons x r ih =>
    intro h
    unfold abv
    by_cases e : x = q
    · rw [if_pos e]; exact Nat.succ_pos _
    · rw [if_neg e]
      rcases List.mem_cons.mp h with e2 | e2
      · exact absurd e2.symm e
      · exact Nat.succ_lt_succ (ih e2)
theorem Sol_abv {n : Nat} : ∀ f k t Y s, Sol n f k t Y → OY n t Y → t < n → s < 5 → (t : Int) ∈ Y s → abv (t : Int) (Y s) ≤ k := by
  intro f
  induction f with
  | zero => intro k t Y s h; exact absurd h (fun q => q)
  | succ f ih =>
    intro k t Y s h hO ht hs hms
    rcases h with h1 | ⟨-, s', r', hs', hY', h2⟩ | ⟨-, k', s', x', r', d, hk, hs', hd, hne, hY', hm', hl, h2⟩
    · omega
    · have e : s = s' := hO.uni (Nat.le_refl t) ht hs hs' hms (by rw [hY']; exact List.mem_cons_self)
      subst e
      rw [hY']
      unfold abv
      rw [if_pos rfl]
      exact Nat.zero_le k
    · have e : s = s' := hO.uni (Nat.le_refl t) ht hs hs' hms (by rw [hY']; exact List.mem_cons_of_mem _ hm')
      subst e
      have e1 : mvY Y s d x' r' s = r' := by unfold mvY; rw [yup_ne (fun q => hne q.symm), yup_eq]
      have := ih k' t _ s h2 (hO.move hs hd hne hY' hl) ht hs (by rw [e1]; exact hm')
      rw [e1] at this
      rw [hY']
      unfold abv
      rw [if_neg (hO.head (Nat.le_refl t) ht hs hY' hm')]
      omega
theorem roomy {Y : Nat → List Int} {s : Nat} (hs : s < 5) (hne : 1 ≤ (Y s).length) (h : tot5 Y ≤ 10) : ∃ d, d < 5 ∧ d ≠ s ∧ (Y d).length < 4 := by
  apply Classical.byContradiction
  intro hno
  have h4 : ∀ d, d < 5 → d ≠ s → 4 ≤ (Y d).length := fun d hd hdne => by
    apply Classical.byContradiction
    intro q
    exact hno ⟨d, hd, hdne, by omega⟩
  unfold tot5 at h
  by_cases e0 : s = 0
  · have := h4 1 (by decide) (by omega); have := h4 2 (by decide) (by omega); have := h4 3 (by decide) (by omega); omega
  · have := h4 0 (by decide) (by omega)
    by_cases e1 : s = 1
    · have := h4 2 (by decide) (by omega); have := h4 3 (by decide) (by omega); omega
    · have := h4 1 (by decide) (by omega)
      by_cases e2 : s = 2
      · have := h4 3 (by decide) (by omega); omega
      · have := h4 2 (by decide) (by omega); omega
theorem Dg_all {n : Nat} : ∀ j t Y, t + j = n → OY n t Y → tot5 Y ≤ 10 → Dg n (3 * j) t Y := by
  intro j
  induction j with
  | zero => intro t Y h hO _; rw [show t = n by omega]; exact Dg_done
  | succ j ih =>
    intro t Y h hO htot
    have ht : t < n := by omega
    obtain ⟨s, hs, hms⟩ := hO.ex (Nat.le_refl t) ht
    have key : ∀ a Y, OY n t Y → tot5 Y ≤ 10 → (t : Int) ∈ Y s → abv (t : Int) (Y s) = a → Dg n (3 * j + a) t Y := by
      intro a
      induction a with
      | zero =>
        intro Y hO htot hms ha
        match hY : Y s, hms, ha with
        | x :: r, hms, ha =>
          unfold abv at ha
          by_cases e : x = (t : Int)
          · have hY2 : Y s = (t : Int) :: r := by rw [hY, e]
            refine Dg_take ht hs hY2 (ih (t + 1) _ (by omega) (hO.take ht hs hY2) ?_)
            have := tot_take hs hY2
            omega
          · rw [if_neg e] at ha; omega
      | succ a iha =>
        intro Y hO htot hms ha
        match hY : Y s, hms, ha with
        | x :: r, hms, ha =>
          unfold abv at ha
          by_cases e : x = (t : Int)
          · rw [if_pos e] at ha; omega
          · rw [if_neg e] at ha
            have hmr : (t : Int) ∈ r := by
              rcases List.mem_cons.mp hms with e2 | e2
              · exact absurd e2.symm e
              · exact e2
            obtain ⟨d, hd, hne, hl⟩ := roomy hs (by rw [hY]; exact Nat.succ_pos _) htot
            have e1 : mvY Y s d x r s = r := by unfold mvY; rw [yup_ne (fun q => hne q.symm), yup_eq]
            exact Dg_move ht hs hd hne hY hmr hl (iha _ (hO.move hs hd hne hY hl) (by rw [tot_move hs hd hne hY]; exact htot) (by rw [e1]; exact hmr) (by rw [e1]; omega))
    have h1 := key _ Y hO htot hms rfl
    have h2 := abv_lt _ hms
    have h3 := hO.2.2.1 s hs
    have h4 := Dg_up h1 (3 - abv (t : Int) (Y s))
    rw [show 3 * j + abv (t : Int) (Y s) + (3 - abv (t : Int) (Y s)) = 3 * (j + 1) by omega] at h4
    exact h4
/-! what must move -/
def lmin : List Int → Int
  | [] => 6
  | x :: r => if lmin r < x then lmin r else x
def mmL : List Int → Nat
  | [] => 0
  | x :: r => if lmin r < x then mmL r + 1 else mmL r
def mm5 (Y : Nat → List Int) : Nat := mmL (Y 0) + mmL (Y 1) + mmL (Y 2) + mmL (Y 3) + mmL (Y 4)
theorem mm_yup {Y : Nat → List Int} {l : List Int} : ∀ s, s < 5 → mm5 (yup Y s l) + mmL (Y s) = mm5 Y + mmL l :=
  five (by simp [mm5, yup]; omega) (by simp [mm5, yup]; omega) (by simp [mm5, yup]; omega) (by simp [mm5, yup]; omega) (by simp [mm5, yup]; omega)
theorem lmin_ge {t : Int} (ht : t ≤ 6) : ∀ l : List Int, (∀ x ∈ l, t ≤ x) → t ≤ lmin l := by
  intro l
  induction l with
  | nil => intro _; exact ht
  | cons x r ih =>
    intro h
    unfold lmin
    split
    · exact ih (fun y hy => h y (List.mem_cons_of_mem _ hy))
    · exact h x List.mem_cons_self
theorem mmL_6 : ∀ l : List Int, (∀ x ∈ l, x = 6) → mmL l = 0 ∧ lmin l = 6 := by
  intro l
  induction l with
  | nil => intro _; exact ⟨rfl, rfl⟩
  | cons x r ih =>
    intro h
    obtain ⟨h1, h2⟩ := ih (fun y hy => h y (List.mem_cons_of_mem _ hy))
    have hx := h x List.mem_cons_self
    constructor
    · show (if lmin r < x then mmL r + 1 else mmL r) = 0
      rw [h1, h2, hx]; rfl
    · show (if lmin r < x then lmin r else x) = 6
      rw [h2, hx]; rfl
theorem OY.ge {n t s : Nat} {Y : Nat → List Int} (h : OY n t Y) (hs : s < 5) : ∀ x ∈ Y s, (t : Int) ≤ x := fun x hx => by
  have := h.2.2.2.1 s hs x hx
  have h1 := h.1
  have h2 := h.2.1
  omega
theorem mm_take {n t s : Nat} {r : List Int} {Y : Nat → List Int} (h : OY n t Y) (hs : s < 5) (hY : Y s = (t : Int) :: r) : mm5 (yup Y s r) = mm5 Y := by
  have h1 := mm_yup (Y := Y) (l := r) s hs
  have h2 := lmin_ge (t := (t : Int)) (by have := h.1; have := h.2.1; omega) r (fun x hx => h.ge hs x (by rw [hY]; exact List.mem_cons_of_mem _ hx))
  rw [hY] at h1
  have h3 : mmL ((t : Int) :: r) = mmL r := by
    show (if lmin r < (t : Int) then mmL r + 1 else mmL r) = _
    rw [if_neg (by omega)]
  omega
theorem mm_move {s d : Nat} {x : Int} {r : List Int} {Y : Nat → List Int} (hs : s < 5) (hd : d < 5) (hne : d ≠ s) (hY : Y s = x :: r) : mm5 Y ≤ mm5 (mvY Y s d x r) + 1 := by
  have h1 := mm_yup (Y := Y) (l := r) s hs
  have h2 := mm_yup (Y := yup Y s r) (l := x :: Y d) d hd
  rw [yup_ne hne] at h2
  have h3 : mmL (x :: r) ≤ mmL r + 1 := by
    show (if lmin r < x then mmL r + 1 else mmL r) ≤ _
    split <;> omega
  have h4 : mmL (Y d) ≤ mmL (x :: Y d) := by
    show _ ≤ (if lmin (Y d) < x then mmL (Y d) + 1 else mmL (Y d))
    split <;> omega
  rw [hY] at h1
  unfold mvY
  omega
theorem Sol_mm {n : Nat} : ∀ f k t Y, Sol n f k t Y → OY n t Y → mm5 Y ≤ k := by
  intro f
  induction f with
  | zero => intro k t Y h; exact absurd h (fun q => q)
  | succ f ih =>
    intro k t Y h hO
    rcases h with h1 | ⟨ht, s', r', hs', hY', h2⟩ | ⟨ht, k', s', x', r', d, hk, hs', hd, hne, hY', hm', hl, h2⟩
    · have h6 : ∀ s, s < 5 → mmL (Y s) = 0 := fun s hs => (mmL_6 (Y s) (fun x hx => by
        have := hO.2.2.2.1 s hs x hx
        omega)).1
      unfold mm5
      rw [h6 0 (by decide), h6 1 (by decide), h6 2 (by decide), h6 3 (by decide), h6 4 (by decide)]
      exact Nat.zero_le k
    · rw [← mm_take hO hs' hY']
      exact ih _ _ _ h2 (hO.take ht hs' hY')
    · have h3 := ih _ _ _ h2 (hO.move hs' hd hne hY' hl)
      have h4 := mm_move hs' hd hne hY'
      omega
/-! two empty piles are as good as each other -/
def swi (a b q : Nat) : Nat := if q = a then b else if q = b then a else q
theorem swi_5 {a b q : Nat} (ha : a < 5) (hb : b < 5) (h : q < 5) : swi a b q < 5 := by unfold swi; split; exact hb; split; exact ha; exact h
theorem swi_swi {a b q : Nat} : swi a b (swi a b q) = q := by
  unfold swi
  by_cases h1 : q = a
  · rw [if_pos h1]
    by_cases h2 : b = a
    · rw [if_pos h2]; omega
    · rw [if_neg h2, if_pos rfl]; exact h1.symm
  · rw [if_neg h1]
    by_cases h2 : q = b
    · rw [if_pos h2, if_pos rfl]; exact h2.symm
    · rw [if_neg h2, if_neg h1, if_neg h2]
theorem swi_inj {a b p q : Nat} (h : swi a b p = swi a b q) : p = q := by
  have := congrArg (swi a b) h
  rw [swi_swi, swi_swi] at this
  exact this
def swY (a b : Nat) (Y : Nat → List Int) : Nat → List Int := fun q => Y (swi a b q)
theorem swY_yup {a b s : Nat} {l : List Int} {Y : Nat → List Int} : yup (swY a b Y) (swi a b s) l = swY a b (yup Y s l) := by
  funext q
  unfold swY
  by_cases e : q = swi a b s
  · rw [e, yup_eq, swi_swi, yup_eq]
  · rw [yup_ne e, yup_ne (fun h => e (by rw [← h, swi_swi]))]
theorem Sol_swY {n a b : Nat} (ha : a < 5) (hb : b < 5) : ∀ f k t Y, Sol n f k t Y → Sol n f k t (swY a b Y) := by
  intro f
  induction f with
  | zero => intro k t Y h; exact h
  | succ f ih =>
    intro k t Y h
    have hsw : ∀ q, swY a b Y (swi a b q) = Y q := fun q => by unfold swY; rw [swi_swi]
    rcases h with h1 | ⟨ht, s', r', hs', hY', h2⟩ | ⟨ht, k', s', x', r', d, hk, hs', hd, hne, hY', hm', hl, h2⟩
    · exact Or.inl h1
    · refine Or.inr (Or.inl ⟨ht, swi a b s', r', swi_5 ha hb hs', by rw [hsw]; exact hY', ?_⟩)
      rw [swY_yup]
      exact ih _ _ _ h2
    · refine Or.inr (Or.inr ⟨ht, k', swi a b s', x', r', swi a b d, hk, swi_5 ha hb hs', swi_5 ha hb hd, fun h => hne (swi_inj h), by rw [hsw]; exact hY', hm', by rw [hsw]; exact hl, ?_⟩)
      have h3 := ih _ _ _ h2
      unfold mvY at h3 ⊢
      rw [hsw, swY_yup, swY_yup]
      exact h3
theorem Dg_emp {n k t s a d : Nat} {x : Int} {r : List Int} {Y : Nat → List Int} (ha : a < 5) (hd : d < 5) (has : a ≠ s) (hds : d ≠ s) (h1 : Y a = []) (h2 : Y d = []) (h : Dg n k t (mvY Y s d x r)) : Dg n k t (mvY Y s a x r) := by
  obtain ⟨f, hf⟩ := h
  refine ⟨f, ?_⟩
  have h3 := Sol_swY (a := a) (b := d) ha hd f k t _ hf
  have e : swY a d (mvY Y s d x r) = mvY Y s a x r := by
    funext q
    unfold swY mvY swi
    rw [h1, h2]
    by_cases e1 : q = a
    · rw [if_pos e1, yup_eq, e1, yup_eq]
    · rw [if_neg e1]
      by_cases e2 : q = d
      · rw [if_pos e2]
        rw [yup_ne e1, e2]
        by_cases e3 : a = d
        · omega
        · rw [yup_ne e3, yup_ne has, yup_ne hds, h1, h2]
      · rw [if_neg e2, yup_ne e2, yup_ne e1]
  rw [e] at h3
  exact h3
/-- the least number of moves -/
def LDg (n t : Nat) (Y : Nat → List Int) (k : Nat) : Prop := Dg n k t Y ∧ ∀ j, j < k → ¬ Dg n j t Y
theorem LDg_u {n t k k' : Nat} {Y : Nat → List Int} (h : LDg n t Y k) (h' : LDg n t Y k') : k = k' := by
  rcases Nat.lt_trichotomy k k' with h1 | h1 | h1
  · exact absurd h.1 (h'.2 k h1)
  · exact h1
  · exact absurd h'.1 (h.2 k' h1)
