/-! packing into bins of 304: D l k r: the items l go on k bins with the loads r -/
def rup (r : Nat → Int) (b : Nat) (x : Int) : Nat → Int := fun c => if c = b then r b + x else r c
def DD : List Int → Nat → (Nat → Int) → Prop
  | [], _, _ => True
  | x :: l, k, r => ∃ b, b < k ∧ r b + x ≤ 304 ∧ DD l k (rup r b x)
def csum : List Int → (Nat → Nat) → Nat → Int
  | [], _, _ => 0
  | x :: l, a, b => (if a 0 = b then x else 0) + csum l (fun i => a (i + 1)) b
theorem csum_nn {l : List Int} (h : ∀ x ∈ l, 0 ≤ x) : ∀ (a : Nat → Nat) (b : Nat), 0 ≤ csum l a b := by
  induction l with
  | nil => intro a b; exact Int.le_refl 0
  | cons x l ih =>
    intro a b
    have h1 := ih (fun y hy => h y (List.mem_cons_of_mem _ hy)) (fun i => a (i + 1)) b
    have h2 := h x List.mem_cons_self
    unfold csum
    split <;> omega
theorem csum_cg {l : List Int} : ∀ {a a' : Nat → Nat} {b : Nat}, (∀ i, i < l.length → a i = a' i) → csum l a b = csum l a' b := by
  induction l with
  | nil => intro a a' b _; rfl
  | cons x l ih =>
    intro a a' b h
    unfold csum
    rw [h 0 (by simp), ih (fun i hi => h (i + 1) (by simp; omega))]
theorem DD_color {l : List Int} (hl : ∀ x ∈ l, 0 ≤ x) : ∀ {k : Nat} {r : Nat → Int}, (∀ b, b < k → r b ≤ 304) → (DD l k r ↔ ∃ a : Nat → Nat, (∀ i, i < l.length → a i < k) ∧ ∀ b, b < k → r b + csum l a b ≤ 304) := by
  induction l with
  | nil =>
    intro k r hr
    exact ⟨fun _ => ⟨fun _ => 0, fun i hi => absurd hi (by simp), fun b hb => by show r b + 0 ≤ 304; have := hr b hb; omega⟩, fun _ => trivial⟩
  | cons x l ih =>
    intro k r hr
    have hl' : ∀ y ∈ l, 0 ≤ y := fun y hy => hl y (List.mem_cons_of_mem _ hy)
    constructor
    · rintro ⟨b, hb, hx, hd⟩
      have hr' : ∀ c, c < k → rup r b x c ≤ 304 := fun c hc => by
        unfold rup; split
        · exact hx
        · exact hr c hc
      obtain ⟨a, ha, hs⟩ := (ih hl' hr').mp hd
      refine ⟨fun i => match i with | 0 => b | i + 1 => a i, fun i hi => ?_, fun c hc => ?_⟩
      · match i with
        | 0 => exact hb
        | i + 1 => exact ha i (by simpa using hi)
      · have h1 := hs c hc
        unfold rup at h1
        show r c + ((if b = c then x else 0) + csum l a c) ≤ 304
        by_cases e : c = b
        · subst e
          rw [if_pos rfl] at h1 ⊢
          omega
        · rw [if_neg e] at h1
          rw [if_neg (fun q => e q.symm)]
          omega
    · rintro ⟨a, ha, hs⟩
      have hb := ha 0 (by simp)
      have hx : r (a 0) + x ≤ 304 := by
        have h1 := hs (a 0) hb
        have h2 := csum_nn hl' (fun i => a (i + 1)) (a 0)
        unfold csum at h1
        rw [if_pos rfl] at h1
        omega
      refine ⟨a 0, hb, hx, (ih hl' (fun c hc => ?_)).mpr ⟨fun i => a (i + 1), fun i hi => ha (i + 1) (by simp; omega), fun c hc => ?_⟩⟩
      · unfold rup; split
        · exact hx
        · exact hr c hc
      · have h1 := hs c hc
        unfold csum at h1
        unfold rup
        by_cases e : c = a 0
        · rw [if_pos e]
          rw [if_pos e.symm, e] at h1
          rw [e]; omega
        · rw [if_neg e]
          rw [if_neg (fun q => e q.symm)] at h1
          omega
theorem rup_comm (r : Nat → Int) (b c : Nat) (x y : Int) : rup (rup r b x) c y = rup (rup r c y) b x := by
  funext d
  unfold rup
  by_cases h1 : d = c
  · subst h1
    by_cases h2 : d = b
    · subst h2; simp only [if_true]; omega
    · simp only [if_true, if_neg h2]
  · by_cases h2 : d = b
    · subst h2; simp only [if_true, if_neg h1]
    · simp only [if_neg h1, if_neg h2]
theorem DD_perm {l l' : List Int} (h : l.Perm l') (hl : ∀ x ∈ l, 0 ≤ x) : ∀ {k : Nat} {r : Nat → Int}, DD l k r → DD l' k r := by
  induction h with
  | nil => intro k r h; exact h
  | cons x _ ih =>
    intro k r h
    obtain ⟨b, hb, hx, hd⟩ := h
    exact ⟨b, hb, hx, ih (fun y hy => hl y (List.mem_cons_of_mem _ hy)) hd⟩
  | swap x y l =>
    intro k r h
    obtain ⟨b, hb, hy, c, hc, hx, hd⟩ := h
    have h0y := hl y List.mem_cons_self
    have h0x := hl x (List.mem_cons_of_mem _ List.mem_cons_self)
    refine ⟨c, hc, ?_, b, hb, ?_, by rw [rup_comm]; exact hd⟩
    · unfold rup at hx
      split at hx
      · next e => subst e; omega
      · exact hx
    · unfold rup at hx ⊢
      by_cases e : b = c
      · subst e; rw [if_pos rfl] at hx ⊢; omega
      · rw [if_neg e]; exact hy
  | trans h1 _ ih1 ih2 =>
    intro k r h
    exact ih2 (fun x hx => hl x (h1.mem_iff.mpr hx)) (ih1 hl h)
theorem DD_iff_perm {l l' : List Int} (h : l.Perm l') (hl : ∀ x ∈ l, 0 ≤ x) {k : Nat} {r : Nat → Int} : DD l k r ↔ DD l' k r :=
  ⟨DD_perm h hl, DD_perm h.symm (fun x hx => hl x (h.mem_iff.mpr hx))⟩
/-- bins beyond are of use to nobody who does without -/
theorem DD_mono {l : List Int} : ∀ {k k' : Nat} {r : Nat → Int}, k ≤ k' → DD l k r → DD l k' r := by
  induction l with
  | nil => intro k k' r _ h; exact h
  | cons x l ih =>
    intro k k' r hk h
    obtain ⟨b, hb, hx, hd⟩ := h
    exact ⟨b, by omega, hx, ih hk hd⟩
/-! the room of the bins that can still take something -/
def openR (w : Int) (r : Nat → Int) : Nat → Int
  | 0 => 0
  | k + 1 => openR w r k + if 304 - r k < w then 0 else 304 - r k
theorem openR_cg {w : Int} {r r' : Nat → Int} : ∀ k, (∀ b, b < k → r b = r' b) → openR w r k = openR w r' k := by
  intro k
  induction k with
  | zero => intro _; rfl
  | succ k ih => intro h; unfold openR; rw [ih (fun b hb => h b (by omega)), h k (by omega)]
theorem openR_up {w x : Int} {r : Nat → Int} {b : Nat} : ∀ k, b < k → openR w (rup r b x) k = openR w r k - (if 304 - r b < w then 0 else 304 - r b) + (if 304 - (r b + x) < w then 0 else 304 - (r b + x)) := by
  intro k
  induction k with
  | zero => intro h; omega
  | succ k ih =>
    intro h
    unfold openR
    by_cases e : b = k
    · subst e
      rw [openR_cg (r' := r) b (fun c hc => by unfold rup; rw [if_neg (by omega)])]
      rw [show rup r b x b = r b + x by unfold rup; rw [if_pos rfl]]
      omega
    · rw [ih (by omega), show rup r b x k = r k by unfold rup; rw [if_neg (fun q => e q.symm)]]
      omega
def lsum : List Int → Int
  | [] => 0
  | x :: l => x + lsum l
theorem openR_nn {w : Int} {r : Nat → Int} (hw : 0 ≤ w) : ∀ k, 0 ≤ openR w r k := by
  intro k
  induction k with
  | zero => exact Int.le_refl 0
  | succ k ih => unfold openR; split <;> omega
theorem DD_open {w : Int} {l : List Int} (hw : 0 ≤ w) : ∀ {k : Nat} {r : Nat → Int}, (∀ x ∈ l, w ≤ x) → DD l k r → lsum l ≤ openR w r k := by
  induction l with
  | nil => intro k r _ _; exact openR_nn hw k
  | cons x l ih =>
    intro k r hl h
    obtain ⟨b, hb, hx, hd⟩ := h
    have h1 := ih (fun y hy => hl y (List.mem_cons_of_mem _ hy)) hd
    have h2 := hl x List.mem_cons_self
    rw [openR_up k hb] at h1
    unfold lsum
    rw [if_neg (by omega)] at h1
    split at h1 <;> omega
/-! exchanges: where another bin can do no better -/
theorem csum_all {l : List Int} (b : Nat) : ∀ a : Nat → Nat, csum l (fun i => if a i = b then b else a i) b = csum l a b := by
  intro a
  exact csum_cg (fun i _ => by split <;> simp_all)
theorem csum_mv {l : List Int} {b c : Nat} (hbc : b ≠ c) : ∀ a : Nat → Nat, csum l (fun i => if a i = c then b else a i) b = csum l a b + csum l a c ∧ csum l (fun i => if a i = c then b else a i) c = 0 ∧ ∀ d, d ≠ b → d ≠ c → csum l (fun i => if a i = c then b else a i) d = csum l a d := by
  induction l with
  | nil => intro a; exact ⟨rfl, rfl, fun _ _ _ => rfl⟩
  | cons x l ih =>
    intro a
    obtain ⟨h1, h2, h3⟩ := ih (fun i => a (i + 1))
    unfold csum
    dsimp only
    refine ⟨?_, ?_, fun d hd1 hd2 => ?_⟩
    · rw [h1]
      by_cases e : a 0 = c
      · have hcb : ¬ a 0 = b := by rw [e]; exact fun q => hbc q.symm
        simp only [if_pos e, if_neg hcb, eq_self, if_true]; omega
      · simp only [if_neg e]; omega
    · rw [h2]
      by_cases e : a 0 = c
      · simp only [if_pos e, if_neg hbc]; rfl
      · simp only [if_neg e]; rfl
    · rw [h3 d hd1 hd2]
      by_cases e : a 0 = c
      · have hcd : ¬ a 0 = d := by rw [e]; exact fun q => hd2 q.symm
        simp only [if_pos e, if_neg hcd, if_neg (fun q : b = d => hd1 q.symm)]
      · simp only [if_neg e]
theorem csum_one {l : List Int} {w x : Int} (hw : 0 < w) : ∀ {a : Nat → Nat} {c : Nat}, (∀ y ∈ l, w ≤ y ∧ y ≤ x) → 0 ≤ x → csum l a c < 2 * w → csum l a c ≤ x := by
  induction l with
  | nil => intro a c _ hx _; exact hx
  | cons y l ih =>
    intro a c hl hx h
    have hy := hl y List.mem_cons_self
    have hl' : ∀ z ∈ l, w ≤ z ∧ z ≤ x := fun z hz => hl z (List.mem_cons_of_mem _ hz)
    unfold csum at h ⊢
    by_cases e : a 0 = c
    · rw [if_pos e] at h ⊢
      have : csum l (fun i => a (i + 1)) c < w := by omega
      have h0 : csum l (fun i => a (i + 1)) c ≤ 0 := by
        clear ih h hl hx e
        generalize (fun i => a (i + 1)) = a' at this ⊢
        induction l generalizing a' with
        | nil => exact Int.le_refl 0
        | cons z l ih2 =>
          have hz := hl' z List.mem_cons_self
          have hn := csum_nn (l := l) (fun q hq => by have := hl' q (List.mem_cons_of_mem _ hq); omega) (fun i => a' (i + 1)) c
          unfold csum at this ⊢
          by_cases e2 : a' 0 = c
          · rw [if_pos e2] at this; omega
          · rw [if_neg e2] at this ⊢
            have := ih2 (fun q hq => hl' q (List.mem_cons_of_mem _ hq)) (fun i => a' (i + 1)) (by omega)
            omega
      omega
    · rw [if_neg e] at h ⊢
      have := ih hl' hx (by omega : csum l (fun i => a (i + 1)) c < 2 * w)
      omega
/-- x on bin c does as well as x on bin b, if what else would come on c comes to no more than x -/
theorem DD_ex {l : List Int} {x : Int} {k b c : Nat} {r : Nat → Int} (hl : ∀ y ∈ l, 0 ≤ y) (hx : 0 ≤ x) (hr : ∀ d, d < k → r d ≤ 304) (hb : b < k) (hc : c < k) (hbc : b ≠ c) (hxb : r b + x ≤ 304) (hxc : r c + x ≤ 304)
    (hT : ∀ a : Nat → Nat, r c + csum l a c ≤ 304 → csum l a c ≤ x) (h : DD l k (rup r b x)) : DD l k (rup r c x) := by
  have hrb : ∀ d, d < k → rup r b x d ≤ 304 := fun d hd => by
    unfold rup; split
    · exact hxb
    · exact hr d hd
  have hrc : ∀ d, d < k → rup r c x d ≤ 304 := fun d hd => by
    unfold rup; split
    · exact hxc
    · exact hr d hd
  obtain ⟨a, ha, hs⟩ := (DD_color hl hrb).mp h
  obtain ⟨m1, m2, m3⟩ := csum_mv (l := l) hbc a
  refine (DD_color hl hrc).mpr ⟨fun i => if a i = c then b else a i, fun i hi => ?_, fun d hd => ?_⟩
  · show (if a i = c then b else a i) < k
    split
    · exact hb
    · exact ha i hi
  · have hsb := hs b hb
    have hsc := hs c hc
    unfold rup at hsb hsc ⊢
    rw [if_pos rfl] at hsb
    rw [if_neg (fun q => hbc q.symm)] at hsc
    by_cases e1 : d = c
    · subst e1
      rw [if_pos rfl, m2]; omega
    · rw [if_neg e1]
      by_cases e2 : d = b
      · subst e2
        rw [m1]
        have := hT a hsc
        omega
      · rw [m3 d e2 e1]
        have := hs d hd
        unfold rup at this
        rw [if_neg e2] at this
        exact this
/-- bins of like load may change places -/
def swp (b c d : Nat) : Nat := if d = b then c else if d = c then b else d
theorem swp_swp (b c d : Nat) : swp b c (swp b c d) = d := by
  unfold swp
  by_cases e1 : d = b
  · rw [if_pos e1]
    by_cases e2 : c = b
    · rw [if_pos e2, e1, e2]
    · rw [if_neg e2, if_pos rfl, e1]
  · rw [if_neg e1]
    by_cases e2 : d = c
    · rw [if_pos e2, if_pos rfl, e2]
    · rw [if_neg e2, if_neg e1, if_neg e2]
theorem swp_lt {b c d k : Nat} (hb : b < k) (hc : c < k) (hd : d < k) : swp b c d < k := by
  unfold swp
  split
  · exact hc
  · split
    · exact hb
    · exact hd
theorem DD_swg : ∀ (l : List Int) {k b c : Nat} {r r' : Nat → Int}, b < k → c < k → (∀ d, r' d = r (swp b c d)) → DD l k r → DD l k r' := by
  intro l
  induction l with
  | nil => intros; trivial
  | cons y l ih =>
    intro k b c r r' hb hc hr h
    obtain ⟨d, hd, hy, hdd⟩ := h
    refine ⟨swp b c d, swp_lt hb hc hd, by rw [hr, swp_swp]; exact hy, ih hb hc (fun e => ?_) hdd⟩
    unfold rup
    rw [hr e, hr, swp_swp]
    by_cases e0 : e = swp b c d
    · rw [if_pos e0, if_pos (by rw [e0, swp_swp])]
    · rw [if_neg e0, if_neg (fun q => e0 (by rw [← q, swp_swp]))]
theorem DD_sw {l : List Int} {x : Int} {k b c : Nat} {r : Nat → Int} (hb : b < k) (hc : c < k) (hbc : r b = r c) (h : DD l k (rup r b x)) : DD l k (rup r c x) := by
  refine DD_swg l hb hc (fun d => ?_) h
  unfold rup swp
  by_cases e1 : d = b
  · subst e1
    rw [if_pos rfl]
    by_cases e2 : d = c
    · subst e2; rw [if_pos rfl]
    · rw [if_neg e2, if_neg (fun q => e2 q.symm)]; exact hbc
  · rw [if_neg e1]
    by_cases e2 : d = c
    · subst e2; rw [if_pos rfl, if_pos rfl, if_pos rfl, hbc]
    · rw [if_neg e2, if_neg e2, if_neg e1]
