/-! the class's constructor -/
theorem cup_self {C : CM} {k : Nat} {e : va_E} (h : C k = some e) : cup C k e = C := by
  funext q
  by_cases e1 : q = k
  · rw [e1, cup_eq, h]
  · rw [cup_ne e1]
theorem n_imp {V : VX} {E : EX} {C C' : CM} {h cs sl pc : Nat} {L : List (Option Value)} {st : List Value} (hC : ∀ H, HC V C H → HC V C' H) (k : GN V E C' h cs sl pc L st) : GN V E C h cs sl pc L st := fun H locs ls hz hP hS hl => k H locs ls hz (hC H hP) hS hl
theorem arN_cg {V : VX} {q t N : Nat} {f g : Nat → Option Nat} {H : Heap} (h : ∀ j, j < N → f j = g j) (ha : va_at V.1 vwCl (q, arN V t N f) H) : va_at V.1 vwCl (q, arN V t N g) H := by
  have ha : H[q]? = some (arrV (V.2.2 t) N (fun j => va_rf (f j))) := ha
  show H[q]? = some (arrV (V.2.2 t) N (fun j => va_rf (g j)))
  rw [ha]
  unfold arrV
  congr 3
  funext j
  exact congrArg va_rf (h j.1 j.2)
def prt0 : List Value := [vi 0, vi 0, vi 0, vi 0, vi 0, vi (-4), vi 0, vi 0]
def mu6 : Mem := fun q j => if q < 40 ∧ j = 5 then -4 else if q = 63 ∧ j = 10 then 15 else 0
def BGl (V : VX) (D : CM) (F : List Value) (p b t : Nat) : CM := fun q =>
  if q = 63 then some (.inr (6, F)) else
  if q = 64 then some (arN V 2 40 (fun j => if j < p then some (V.2.1 j) else none)) else
  if q = 65 then some (arN V 3 3 (fun j => if j < b then some (V.2.1 (40 + j)) else none)) else
  if q = 66 then some (arN V 4 5 (fun j => if j < t then some (V.2.1 (43 + j)) else none)) else
  if q < p then some (.inr (4, prt0)) else
  if 40 ≤ q ∧ q < 40 + b then some (.inr (0, blkF0)) else
  if 43 ≤ q ∧ q < 43 + t then some (.inr (5, [vr V (q + 5), vi 0])) else
  if 48 ≤ q ∧ q < 48 + t then some (arI V 4 (fun _ => 0)) else D q
theorem BG_0 {V : VX} {D : CM} {F : List Value} (h4 : D 64 = some (arN V 2 40 (fun _ => none))) (h5 : D 65 = some (arN V 3 3 (fun _ => none))) (h6 : D 66 = some (arN V 4 5 (fun _ => none))) : cup D 63 (.inr (6, F)) = BGl V D F 0 0 0 := by
  funext q
  unfold BGl
  by_cases e1 : q = 63
  · rw [e1, cup_eq, if_pos rfl]
  · rw [cup_ne e1, if_neg e1]
    by_cases e2 : q = 64
    · rw [e2, if_pos rfl, h4]; congr 2
    · rw [if_neg e2]
      by_cases e3 : q = 65
      · rw [e3, if_pos rfl, h5]; congr 2
      · rw [if_neg e3]
        by_cases e4 : q = 66
        · rw [e4, if_pos rfl, h6]; congr 2
        · rw [if_neg e4, if_neg (by omega), if_neg (by omega), if_neg (by omega), if_neg (by omega)]
theorem up_next {V : VX} {o i : Nat} : va_up (fun j => if j < i then some (V.2.1 (o + j)) else none) i (some (V.2.1 (o + i))) = fun j => if j < i + 1 then some (V.2.1 (o + j)) else none := by
  funext j
  unfold va_up
  by_cases e2 : j = i
  · rw [if_pos e2, if_pos (by omega), e2]
  · rw [if_neg e2]
    show (if j < i then some (V.2.1 (o + j)) else none) = _
    by_cases e3 : j < i
    · rw [if_pos e3, if_pos (by omega)]
    · rw [if_neg e3, if_neg (by omega)]
theorem up_next0 {V : VX} {i : Nat} : va_up (fun j => if j < i then some (V.2.1 j) else none) i (some (V.2.1 i)) = fun j => if j < i + 1 then some (V.2.1 j) else none := by
  funext j
  unfold va_up
  by_cases e2 : j = i
  · rw [if_pos e2, if_pos (by omega), e2]
  · rw [if_neg e2]
    show (if j < i then some (V.2.1 j) else none) = _
    by_cases e3 : j < i
    · rw [if_pos e3, if_pos (by omega)]
    · rw [if_neg e3, if_neg (by omega)]
theorem BG_p {V : VX} {D : CM} {F : List Value} {p : Nat} (hp : p < 40) : cup (cup (BGl V D F p 0 0) p (.inr (4, prt0))) 64 (arN V 2 40 (fun j => if j < p + 1 then some (V.2.1 j) else none)) = BGl V D F (p + 1) 0 0 := by
  funext q
  unfold BGl
  by_cases e1 : q = 64
  · rw [e1, cup_eq, if_neg (by decide), if_pos rfl]
  · rw [cup_ne e1, if_neg e1]
    by_cases e2 : q = p
    · rw [e2, cup_eq, if_neg (by omega), if_neg (by omega), if_neg (by omega), if_pos (by omega)]
    · rw [cup_ne e2, if_neg e1]
      by_cases e3 : q < p
      · rw [if_pos e3, if_pos (show q < p + 1 by omega)]
      · rw [if_neg e3, if_neg (show ¬ q < p + 1 by omega)]
theorem BG_b {V : VX} {D : CM} {F : List Value} {b : Nat} (hb : b < 3) : cup (cup (BGl V D F 40 b 0) (40 + b) (.inr (0, blkF0))) 65 (arN V 3 3 (fun j => if j < b + 1 then some (V.2.1 (40 + j)) else none)) = BGl V D F 40 (b + 1) 0 := by
  funext q
  unfold BGl
  by_cases e1 : q = 65
  · rw [e1, cup_eq, if_neg (by decide), if_neg (by decide), if_pos rfl]
  · rw [cup_ne e1, if_neg e1]
    by_cases e2 : q = 40 + b
    · rw [e2, cup_eq, if_neg (by omega), if_neg (by omega), if_neg (by omega), if_neg (by omega), if_pos (by omega)]
    · rw [cup_ne e2, if_neg e1]
      by_cases e3 : 40 ≤ q ∧ q < 40 + b
      · rw [if_pos e3, if_pos (show 40 ≤ q ∧ q < 40 + (b + 1) by omega)]
      · rw [if_neg e3, if_neg (show ¬ (40 ≤ q ∧ q < 40 + (b + 1)) by omega)]
theorem BG_t {V : VX} {D : CM} {F : List Value} {t : Nat} (ht : t < 5) : cup (cup (cup (BGl V D F 40 3 t) (48 + t) (arI V 4 (fun _ => 0))) (43 + t) (.inr (5, [vr V (48 + t), vi 0]))) 66 (arN V 4 5 (fun j => if j < t + 1 then some (V.2.1 (43 + j)) else none)) = BGl V D F 40 3 (t + 1) := by
  funext q
  unfold BGl
  by_cases e1 : q = 66
  · rw [e1, cup_eq, if_neg (by decide), if_neg (by decide), if_neg (by decide), if_pos rfl]
  · rw [cup_ne e1, if_neg e1]
    by_cases e2 : q = 43 + t
    · rw [e2, cup_eq, if_neg (by omega), if_neg (by omega), if_neg (by omega), if_neg (by omega), if_neg (by omega), if_pos (by omega), show 43 + t + 5 = 48 + t by omega]
    · rw [cup_ne e2]
      by_cases e4 : q = 48 + t
      · rw [e4, cup_eq, if_neg (by omega), if_neg (by omega), if_neg (by omega), if_neg (by omega), if_neg (by omega), if_neg (by omega), if_pos (by omega)]
      · rw [cup_ne e4, if_neg e1]
        by_cases e3 : 43 ≤ q ∧ q < 43 + t
        · rw [if_pos e3, if_pos (show 43 ≤ q ∧ q < 43 + (t + 1) by omega)]
        · rw [if_neg e3, if_neg (show ¬ (43 ≤ q ∧ q < 43 + (t + 1)) by omega)]
          by_cases e5 : 48 ≤ q ∧ q < 48 + t
          · rw [if_pos e5, if_pos (show 48 ≤ q ∧ q < 48 + (t + 1) by omega)]
          · rw [if_neg e5, if_neg (show ¬ (48 ≤ q ∧ q < 48 + (t + 1)) by omega)]
theorem BG_63 {V : VX} {D : CM} {F F' : List Value} {p b t : Nat} : cup (BGl V D F p b t) 63 (.inr (6, F')) = BGl V D F' p b t := by
  funext q
  unfold BGl
  by_cases e1 : q = 63
  · rw [e1, cup_eq, if_pos rfl]
  · rw [cup_ne e1, if_neg e1, if_neg e1]
def DB3 (V : VX) (C : CM) : CM := cup (cup (cup C 64 (arN V 2 40 (fun _ => none))) 65 (arN V 3 3 (fun _ => none))) 66 (arN V 4 5 (fun _ => none))
def DB4 (V : VX) (C : CM) : CM := cup (cup (DB3 V C) 68 (arI V 4 (fun _ => 0))) 67 (.inr (2, [vr V 68, vi 0, vi 0, vi 0, vi 0]))
def DB5 (V : VX) (C : CM) : CM := cup (cup (cup (DB4 V C) 70 (arI V 12 (fun _ => 0))) 71 (arI V 12 (fun _ => 0))) 69 (.inr (3, [vr V 70, vr V 71, vi 0, vi 0]))
def DB6 (V : VX) (C : CM) : CM := DGc V (DB5 V C) 5
theorem DB_l {D : CM} {x a b c y : va_E} : cup (cup (cup (cup (cup D 63 x) 67 a) 68 b) 67 c) 63 y = cup (cup (cup D 68 b) 67 c) 63 y := by
  funext q
  unfold cup
  by_cases e1 : q = 63 <;> by_cases e2 : q = 67 <;> simp only [e1, e2, if_true, if_false]
theorem DB_p {D : CM} {x a b c d e y : va_E} : cup (cup (cup (cup (cup (cup (cup D 63 x) 69 a) 70 b) 69 c) 71 d) 69 e) 63 y = cup (cup (cup (cup D 70 b) 71 d) 69 e) 63 y := by
  funext q
  unfold cup
  by_cases e1 : q = 63
  · simp only [e1, if_true]
  · by_cases e2 : q = 69
    · simp only [e2, if_true]
    · simp only [e1, e2, if_false]
theorem DB_d {V : VX} {D : CM} {x a y : va_E} : cup (DGc V (cup (cup D 63 x) 72 a) 5) 63 y = cup (DGc V D 5) 63 y := by
  funext q
  by_cases e1 : q = 63
  · rw [e1, cup_eq, cup_eq]
  · rw [cup_ne e1, cup_ne e1]
    unfold DGc
    by_cases e2 : q = 72
    · rw [if_pos e2, if_pos e2]
    · rw [cup_ne e2, cup_ne e1]
theorem ck_nx {V : VX} {a : Nat} {x : Option Value} : ∀ (j : Nat) (v : Value), [some (vr V a), x][j]? = some (some v) → j + 1 = 1 → v.category ≠ 2 := ck_at0
def adrX (V : VX) (h : Nat) : Prop := (∀ j, j < 12 → V.2.1 (64 + j) = h + j) ∧ (∀ i, i < 5 → V.2.1 (53 + i) = h + 12 + 2 * i ∧ V.2.1 (58 + i) = h + 13 + 2 * i) ∧ (∀ i, i < 40 → V.2.1 i = h + 22 + i) ∧ (∀ i, i < 3 → V.2.1 (40 + i) = h + 62 + i) ∧ ∀ i, i < 5 → V.2.1 (43 + i) = h + 65 + 2 * i ∧ V.2.1 (48 + i) = h + 66 + 2 * i
set_option maxHeartbeats 4000000 in
theorem bo_4 {V : VX} {E : EX} {lvl h : Nat} {C : CM} (hX : OkX V E RX6 cX6_init 2 lvl) (hI : InjV V) (hlv : 2 < lvl) (hKN : KN V E.2.1.1) (hnm : E.2.2.1.2.1.name = "<init>") (hcl : 75 ≤ E.1.2.2.2.cells) (hsl : 532 ≤ E.1.2.2.2.slots) (ha : adrX V h) (k : GN V E (BGl V (DB6 V C) [vr V 64, vr V 65, vr V 66, vr V 67, vr V 69, vr V 72, vi 0, vi 0, vi 0, vi 0, vi 0] 0 0 0) (h + 22) 22 170 62 [some (vr V 63), none] []) : GN V E (cup C 63 (.inr (6, [.null, .null, .null, .null, .null, .null, vi 0, vi 0, vi 0, vi 0, vi 0]))) h 0 0 4 [some (vr V 63), none] [] := by
  obtain ⟨ha1, ha2, -⟩ := ha
  have a64 : V.2.1 64 = h := ha1 0 (by decide)
  have a65 : V.2.1 65 = h + 1 := ha1 1 (by decide)
  have a66 : V.2.1 66 = h + 2 := ha1 2 (by decide)
  have a67 : V.2.1 67 = h + 3 := ha1 3 (by decide)
  have a68 : V.2.1 68 = h + 4 := ha1 4 (by decide)
  have a69 : V.2.1 69 = h + 5 := ha1 5 (by decide)
  have a70 : V.2.1 70 = h + 6 := ha1 6 (by decide)
  have a71 : V.2.1 71 = h + 7 := ha1 7 (by decide)
  have a72 : V.2.1 72 = h + 8 := ha1 8 (by decide)
  have a73 : V.2.1 73 = h + 9 := ha1 9 (by decide)
  have a74 : V.2.1 74 = h + 10 := ha1 10 (by decide)
  have a75 : V.2.1 75 = h + 11 := ha1 11 (by decide)
  refine n_aload_n hX dX6_init_4 rfl ?_
  refine n_bipush hX dX6_init_5 rfl ?_
  refine n_newR (k := 64) (t := 2) (N := 40) hX dX6_init_7 tw_18 hKN.2.2.1 rfl rfl (by decide) (by omega) (by omega) (by omega) (by omega) ?_
  refine n_putF2 (ci := 6) (j := 0) (N := 11) (T := TX6) (ty := .array (.object "StoneBeds$Part")) hX dX6_init_10 (by repeat first | exact cup_eq | assumption | rw [cup_ne (by omega)]) rfl inX6 tyX6_ok nmX6 (by decide) tw_163 rfl hnm rfl (by decide +kernel) rfl rfl (by exact Nat.le_of_ble_eq_true rfl) (hX.2.2.2.2.2.2.2.2.1 _ (by omega)) [vr V 64, .null, .null, .null, .null, .null, vi 0, vi 0, vi 0, vi 0, vi 0] rfl (C' := cup (cup C 64 (arN V 2 40 (fun _ => none))) 63 (.inr (6, [vr V 64, .null, .null, .null, .null, .null, vi 0, vi 0, vi 0, vi 0, vi 0]))) (by rw [cup_comm (k := 63) (j := 64) (by decide), cup_cup]) ?_
  refine n_aload_n hX dX6_init_13 rfl ?_
  refine n_iconst hX dX6_init_14 ?_
  refine n_newR (k := 65) (t := 3) (N := 3) hX dX6_init_15 tw_20 hKN.2.2.2.1 rfl rfl (by decide) (by omega) (by omega) (by omega) (by omega) ?_
  refine n_putF2 (ci := 6) (j := 1) (N := 11) (T := TX6) (ty := .array (.object "StoneBeds$Bed")) hX dX6_init_18 (by repeat first | exact cup_eq | assumption | rw [cup_ne (by omega)]) rfl inX6 tyX6_ok nmX6 (by decide) tw_164 rfl hnm rfl (by decide +kernel) rfl rfl (by exact Nat.le_of_ble_eq_true rfl) (hX.2.2.2.2.2.2.2.2.1 _ (by omega)) [vr V 64, vr V 65, .null, .null, .null, .null, vi 0, vi 0, vi 0, vi 0, vi 0] rfl (C' := cup (cup (cup C 64 (arN V 2 40 (fun _ => none))) 65 (arN V 3 3 (fun _ => none))) 63 (.inr (6, [vr V 64, vr V 65, .null, .null, .null, .null, vi 0, vi 0, vi 0, vi 0, vi 0]))) (by rw [cup_comm (k := 63) (j := 65) (by decide), cup_cup]) ?_
  refine n_aload_n hX dX6_init_21 rfl ?_
  refine n_iconst hX dX6_init_22 ?_
  refine n_newR (k := 66) (t := 4) (N := 5) hX dX6_init_23 tw_22 hKN.2.2.2.2 rfl rfl (by decide) (by omega) (by omega) (by omega) (by omega) ?_
  refine n_putF2 (ci := 6) (j := 2) (N := 11) (T := TX6) (ty := .array (.object "StoneBeds$Pile")) hX dX6_init_26 (by repeat first | exact cup_eq | assumption | rw [cup_ne (by omega)]) rfl inX6 tyX6_ok nmX6 (by decide) tw_165 rfl hnm rfl (by decide +kernel) rfl rfl (by exact Nat.le_of_ble_eq_true rfl) (hX.2.2.2.2.2.2.2.2.1 _ (by omega)) [vr V 64, vr V 65, vr V 66, .null, .null, .null, vi 0, vi 0, vi 0, vi 0, vi 0] rfl (C' := cup (DB3 V C) 63 (.inr (6, [vr V 64, vr V 65, vr V 66, .null, .null, .null, vi 0, vi 0, vi 0, vi 0, vi 0]))) (by rw [cup_comm (k := 63) (j := 66) (by decide), cup_cup]; rfl) ?_
  refine n_aload_n hX dX6_init_29 rfl ?_
  refine n_new (k := 67) (ci := 2) (N := 5) (T := TX2) (ty := tyX2) (fs := blkF2) hX dX6_init_30 rfl inX2 tyX2_ok tw_24 tw_25 tw_2 blk2_ok (by omega) (by omega) (by omega) (by omega) ?_
  refine n_dup hX dX6_init_33 rfl ?_
  refine n_initN hX hKN tn_26 tw_27 tw_2 tw_28 rfl (by decide +kernel) dX6_init_34 (i_lorry hI cup_eq (by decide) (by omega) (by decide)) (by omega) (by decide) rfl (Nat.le_of_ble_eq_true rfl) (by omega) (by omega) ?_
  refine n_putF2 (ci := 6) (j := 3) (N := 11) (T := TX6) (ty := .object "StoneBeds$Lorry") hX dX6_init_37 (by repeat first | exact cup_eq | assumption | rw [cup_ne (by omega)]) rfl inX6 tyX6_ok nmX6 (by decide) tw_166 rfl hnm rfl (by decide +kernel) rfl rfl (by exact Nat.le_of_ble_eq_true rfl) (hX.2.2.2.2.2.2.2.2.1 _ (by omega)) [vr V 64, vr V 65, vr V 66, vr V 67, .null, .null, vi 0, vi 0, vi 0, vi 0, vi 0] rfl (C' := cup (DB4 V C) 63 (.inr (6, [vr V 64, vr V 65, vr V 66, vr V 67, .null, .null, vi 0, vi 0, vi 0, vi 0, vi 0]))) (DB_l) ?_
  refine n_aload_n hX dX6_init_40 rfl ?_
  refine n_new (k := 69) (ci := 3) (N := 4) (T := TX3) (ty := tyX3) (fs := blkF3) hX dX6_init_41 rfl inX3 tyX3_ok tw_51 tw_52 tw_3 blk3_ok (by omega) (by omega) (by omega) (by omega) ?_
  refine n_dup hX dX6_init_44 rfl ?_
  refine n_initN hX hKN tn_53 tw_54 tw_3 tw_55 rfl (by decide +kernel) dX6_init_45 (i_packer hI cup_eq (by decide) (by omega) (by omega) (by decide)) (by omega) (by decide) rfl (Nat.le_of_ble_eq_true rfl) (by omega) (by omega) ?_
  refine n_putF2 (ci := 6) (j := 4) (N := 11) (T := TX6) (ty := .object "StoneBeds$Packer") hX dX6_init_48 (by repeat first | exact cup_eq | assumption | rw [cup_ne (by omega)]) rfl inX6 tyX6_ok nmX6 (by decide) tw_167 rfl hnm rfl (by decide +kernel) rfl rfl (by exact Nat.le_of_ble_eq_true rfl) (hX.2.2.2.2.2.2.2.2.1 _ (by omega)) [vr V 64, vr V 65, vr V 66, vr V 67, vr V 69, .null, vi 0, vi 0, vi 0, vi 0, vi 0] rfl (C' := cup (DB5 V C) 63 (.inr (6, [vr V 64, vr V 65, vr V 66, vr V 67, vr V 69, .null, vi 0, vi 0, vi 0, vi 0, vi 0]))) (DB_p) ?_
  refine n_aload_n hX dX6_init_51 rfl ?_
  refine n_new (k := 72) (ci := 1) (N := 4) (T := TX1) (ty := tyX1) (fs := blkF1) hX dX6_init_52 rfl inX1 tyX1_ok tw_70 tw_71 tw_4 blk1_ok (by omega) (by omega) (by omega) (by omega) ?_
  refine n_dup hX dX6_init_55 rfl ?_
  refine n_init hX hKN tw_72 tw_73 tw_4 tw_74 rfl (by decide +kernel) dX6_init_56 (i_digger hI cup_eq (by omega) (by omega) (by omega) (fun i hi => by have := ha2 i hi; rw [show 53 + i + 5 = 58 + i by omega]; omega)) (by omega) (by decide) rfl (Nat.le_of_ble_eq_true rfl) (by omega) (by omega) ?_
  refine n_putF2 (ci := 6) (j := 5) (N := 11) (T := TX6) (ty := .object "StoneBeds$Digger") hX dX6_init_59 (show DGc V _ 5 63 = _ from rfl) rfl inX6 tyX6_ok nmX6 (by decide) tw_168 rfl hnm rfl (by decide +kernel) rfl rfl (by exact Nat.le_of_ble_eq_true rfl) (hX.2.2.2.2.2.2.2.2.1 _ (by omega)) [vr V 64, vr V 65, vr V 66, vr V 67, vr V 69, vr V 72, vi 0, vi 0, vi 0, vi 0, vi 0] rfl (C' := cup (DB6 V C) 63 (.inr (6, [vr V 64, vr V 65, vr V 66, vr V 67, vr V 69, vr V 72, vi 0, vi 0, vi 0, vi 0, vi 0]))) (DB_d) ?_
  exact n_eq (BG_0 rfl rfl rfl) (by omega) (by omega) (by omega) k
set_option maxHeartbeats 4000000 in
theorem bl_p {V : VX} {E : EX} {lvl h : Nat} {D : CM} (hX : OkX V E RX6 cX6_init 2 lvl) (hI : InjV V) (hlv : 2 < lvl) (hKN : KN V E.2.1.1) (hcl : 75 ≤ E.1.2.2.2.cells) (hsl : 532 ≤ E.1.2.2.2.slots) (ha : adrX V h) (k : GN V E (BGl V D [vr V 64, vr V 65, vr V 66, vr V 67, vr V 69, vr V 72, vi 0, vi 0, vi 0, vi 0, vi 0] 40 0 0) (h + 22 + 40) (22 + 40) (170 + 8 * 40) 92 [some (vr V 63), some (vi (40 : Int))] []) :
    ∀ (d i : Nat), i + d = 40 → GN V E (BGl V D [vr V 64, vr V 65, vr V 66, vr V 67, vr V 69, vr V 72, vi 0, vi 0, vi 0, vi 0, vi 0] i 0 0) (h + 22 + i) (22 + i) (170 + 8 * i) 64 [some (vr V 63), some (vi (i : Int))] [] := by
  obtain ⟨ha1, ha2, ha3, ha4, ha5⟩ := ha
  intro d
  induction d with
  | zero =>
    intro i hi
    obtain rfl : i = 40 := by omega
    have hd63 : (BGl V D [vr V 64, vr V 65, vr V 66, vr V 67, vr V 69, vr V 72, vi 0, vi 0, vi 0, vi 0, vi 0] 40 0 0) 63 = some (.inr (6, [vr V 64, vr V 65, vr V 66, vr V 67, vr V 69, vr V 72, vi 0, vi 0, vi 0, vi 0, vi 0])) := rfl
    have hd : (BGl V D [vr V 64, vr V 65, vr V 66, vr V 67, vr V 69, vr V 72, vi 0, vi 0, vi 0, vi 0, vi 0] 40 0 0) 64 = some (arN V 2 40 (fun j => if j < 40 then some (V.2.1 (j)) else none)) := rfl
    refine n_iload_n hX dX6_init_64 rfl ?_
    refine n_aload_n hX dX6_init_65 rfl ?_
    refine n_get (ci := 6) (j := 0) (N := 11) (T := TX6) hX dX6_init_66 (by repeat first | exact cup_eq | assumption | rw [cup_ne (by omega)]) rfl inX6 (by decide) tw_163 rfl ?_
    refine n_alen hX dX6_init_69 hd rfl ?_
    refine n_icmp_ge (tgt := 92) hX dX6_init_70 (by decide) ⟨by decide, by decide⟩ ⟨by decide, by decide⟩ (fun _ => k) (fun hc => absurd hc (by decide))
  | succ d ih =>
    intro i hi
    have hd63 : (BGl V D [vr V 64, vr V 65, vr V 66, vr V 67, vr V 69, vr V 72, vi 0, vi 0, vi 0, vi 0, vi 0] i 0 0) 63 = some (.inr (6, [vr V 64, vr V 65, vr V 66, vr V 67, vr V 69, vr V 72, vi 0, vi 0, vi 0, vi 0, vi 0])) := rfl
    have hd : (BGl V D [vr V 64, vr V 65, vr V 66, vr V 67, vr V 69, vr V 72, vi 0, vi 0, vi 0, vi 0, vi 0] i 0 0) 64 = some (arN V 2 40 (fun j => if j < i then some (V.2.1 (j)) else none)) := rfl
    have hx := ha3 i (by omega)
    refine n_iload_n hX dX6_init_64 rfl ?_
    refine n_aload_n hX dX6_init_65 rfl ?_
    refine n_get (ci := 6) (j := 0) (N := 11) (T := TX6) hX dX6_init_66 (by repeat first | exact cup_eq | assumption | rw [cup_ne (by omega)]) rfl inX6 (by decide) tw_163 rfl ?_
    refine n_alen hX dX6_init_69 hd rfl ?_
    refine n_icmp_ge (tgt := 92) hX dX6_init_70 (by decide) ⟨by omega, by omega⟩ ⟨by decide, by decide⟩ (fun hc => absurd hc (by omega)) (fun _ => ?_)
    refine n_aload_n hX dX6_init_73 rfl ?_
    refine n_get (ci := 6) (j := 0) (N := 11) (T := TX6) hX dX6_init_74 (by repeat first | exact cup_eq | assumption | rw [cup_ne (by omega)]) rfl inX6 (by decide) tw_163 rfl ?_
    refine n_iload_n hX dX6_init_77 rfl ?_
    refine n_new (k := i) (ci := 4) (N := 8) (T := TX4) (ty := tyX4) (fs := blkF4) hX dX6_init_78 rfl inX4 tyX4_ok tw_18 tw_104 tw_6 blk4_ok (by omega) (by omega) (by omega) (by omega) ?_
    refine n_dup hX dX6_init_81 rfl ?_
    refine n_initN hX hKN tn_105 tw_106 tw_6 tw_107 rfl (by decide +kernel) dX6_init_82 (i_part hI cup_eq (by omega)) (by omega) (by decide) rfl (Nat.le_of_ble_eq_true rfl) (by omega) (by omega) ?_
    refine n_aast (k := 64) (t := 2) (N := 40) (ci := 4) (k2 := i) (i := i) hX dX6_init_85 (by rw [cup_ne (by omega), cup_ne (by omega)]; exact hd) rfl cup_eq rfl rfl (by omega) (by decide) (hX.2.2.2.2.2.2.2.2.1 _ (by omega)) ?_
    refine n_iinc hX dX6_init_86 (i := 1) rfl ck_nx ?_
    refine n_goto (tgt := 64) hX dX6_init_89 (by decide) ?_
    refine n_eq ?_ (by omega) (by omega) (by omega) (ih (i + 1) (by omega))
    rw [up_next0, cup_cup]
    exact BG_p (by omega)
set_option maxHeartbeats 4000000 in
theorem bl_b {V : VX} {E : EX} {lvl h : Nat} {D : CM} (hX : OkX V E RX6 cX6_init 2 lvl) (hI : InjV V) (hlv : 2 < lvl) (hKN : KN V E.2.1.1) (hcl : 75 ≤ E.1.2.2.2.cells) (hsl : 532 ≤ E.1.2.2.2.slots) (ha : adrX V h) (k : GN V E (BGl V D [vr V 64, vr V 65, vr V 66, vr V 67, vr V 69, vr V 72, vi 0, vi 0, vi 0, vi 0, vi 0] 40 3 0) (h + 62 + 3) (62 + 3) (490 + 4 * 3) 122 [some (vr V 63), some (vi (3 : Int))] []) :
    ∀ (d i : Nat), i + d = 3 → GN V E (BGl V D [vr V 64, vr V 65, vr V 66, vr V 67, vr V 69, vr V 72, vi 0, vi 0, vi 0, vi 0, vi 0] 40 i 0) (h + 62 + i) (62 + i) (490 + 4 * i) 94 [some (vr V 63), some (vi (i : Int))] [] := by
  obtain ⟨ha1, ha2, ha3, ha4, ha5⟩ := ha
  intro d
  induction d with
  | zero =>
    intro i hi
    obtain rfl : i = 3 := by omega
    have hd63 : (BGl V D [vr V 64, vr V 65, vr V 66, vr V 67, vr V 69, vr V 72, vi 0, vi 0, vi 0, vi 0, vi 0] 40 3 0) 63 = some (.inr (6, [vr V 64, vr V 65, vr V 66, vr V 67, vr V 69, vr V 72, vi 0, vi 0, vi 0, vi 0, vi 0])) := rfl
    have hd : (BGl V D [vr V 64, vr V 65, vr V 66, vr V 67, vr V 69, vr V 72, vi 0, vi 0, vi 0, vi 0, vi 0] 40 3 0) 65 = some (arN V 3 3 (fun j => if j < 3 then some (V.2.1 (40 + j)) else none)) := rfl
    refine n_iload_n hX dX6_init_94 rfl ?_
    refine n_aload_n hX dX6_init_95 rfl ?_
    refine n_get (ci := 6) (j := 1) (N := 11) (T := TX6) hX dX6_init_96 (by repeat first | exact cup_eq | assumption | rw [cup_ne (by omega)]) rfl inX6 (by decide) tw_164 rfl ?_
    refine n_alen hX dX6_init_99 hd rfl ?_
    refine n_icmp_ge (tgt := 122) hX dX6_init_100 (by decide) ⟨by decide, by decide⟩ ⟨by decide, by decide⟩ (fun _ => k) (fun hc => absurd hc (by decide))
  | succ d ih =>
    intro i hi
    have hd63 : (BGl V D [vr V 64, vr V 65, vr V 66, vr V 67, vr V 69, vr V 72, vi 0, vi 0, vi 0, vi 0, vi 0] 40 i 0) 63 = some (.inr (6, [vr V 64, vr V 65, vr V 66, vr V 67, vr V 69, vr V 72, vi 0, vi 0, vi 0, vi 0, vi 0])) := rfl
    have hd : (BGl V D [vr V 64, vr V 65, vr V 66, vr V 67, vr V 69, vr V 72, vi 0, vi 0, vi 0, vi 0, vi 0] 40 i 0) 65 = some (arN V 3 3 (fun j => if j < i then some (V.2.1 (40 + j)) else none)) := rfl
    have hx := ha4 i (by omega)
    refine n_iload_n hX dX6_init_94 rfl ?_
    refine n_aload_n hX dX6_init_95 rfl ?_
    refine n_get (ci := 6) (j := 1) (N := 11) (T := TX6) hX dX6_init_96 (by repeat first | exact cup_eq | assumption | rw [cup_ne (by omega)]) rfl inX6 (by decide) tw_164 rfl ?_
    refine n_alen hX dX6_init_99 hd rfl ?_
    refine n_icmp_ge (tgt := 122) hX dX6_init_100 (by decide) ⟨by omega, by omega⟩ ⟨by decide, by decide⟩ (fun hc => absurd hc (by omega)) (fun _ => ?_)
    refine n_aload_n hX dX6_init_103 rfl ?_
    refine n_get (ci := 6) (j := 1) (N := 11) (T := TX6) hX dX6_init_104 (by repeat first | exact cup_eq | assumption | rw [cup_ne (by omega)]) rfl inX6 (by decide) tw_164 rfl ?_
    refine n_iload_n hX dX6_init_107 rfl ?_
    refine n_new (k := 40 + i) (ci := 0) (N := 4) (T := TX0) (ty := tyX0) (fs := blkF0) hX dX6_init_108 rfl inX0 tyX0_ok tw_20 tw_140 tw_7 blk0_ok (by omega) (by omega) (by omega) (by omega) ?_
    refine n_dup hX dX6_init_111 rfl ?_
    refine n_initN hX hKN tn_141 tw_142 tw_7 tw_143 rfl (by decide +kernel) dX6_init_112 (i_bed hI cup_eq (by omega)) (by omega) (by decide) rfl (Nat.le_of_ble_eq_true rfl) (by omega) (by omega) ?_
    refine n_aast (k := 65) (t := 3) (N := 3) (ci := 0) (k2 := 40 + i) (i := i) hX dX6_init_115 (by rw [cup_ne (by omega)]; exact hd) rfl cup_eq rfl rfl (by omega) (by decide) (hX.2.2.2.2.2.2.2.2.1 _ (by omega)) ?_
    refine n_iinc hX dX6_init_116 (i := 1) rfl ck_nx ?_
    refine n_goto (tgt := 94) hX dX6_init_119 (by decide) ?_
    refine n_eq ?_ (by omega) (by omega) (by omega) (ih (i + 1) (by omega))
    rw [up_next]
    exact BG_b (by omega)
set_option maxHeartbeats 4000000 in
theorem bl_t {V : VX} {E : EX} {lvl h : Nat} {D : CM} (hX : OkX V E RX6 cX6_init 2 lvl) (hI : InjV V) (hlv : 2 < lvl) (hKN : KN V E.2.1.1) (hcl : 75 ≤ E.1.2.2.2.cells) (hsl : 532 ≤ E.1.2.2.2.slots) (ha : adrX V h) (k : GN V E (BGl V D [vr V 64, vr V 65, vr V 66, vr V 67, vr V 69, vr V 72, vi 0, vi 0, vi 0, vi 0, vi 0] 40 3 5) (h + 65 + 2 * 5) (65 + 2 * 5) (502 + 6 * 5) 152 [some (vr V 63), some (vi (5 : Int))] []) :
    ∀ (d i : Nat), i + d = 5 → GN V E (BGl V D [vr V 64, vr V 65, vr V 66, vr V 67, vr V 69, vr V 72, vi 0, vi 0, vi 0, vi 0, vi 0] 40 3 i) (h + 65 + 2 * i) (65 + 2 * i) (502 + 6 * i) 124 [some (vr V 63), some (vi (i : Int))] [] := by
  obtain ⟨ha1, ha2, ha3, ha4, ha5⟩ := ha
  intro d
  induction d with
  | zero =>
    intro i hi
    obtain rfl : i = 5 := by omega
    have hd63 : (BGl V D [vr V 64, vr V 65, vr V 66, vr V 67, vr V 69, vr V 72, vi 0, vi 0, vi 0, vi 0, vi 0] 40 3 5) 63 = some (.inr (6, [vr V 64, vr V 65, vr V 66, vr V 67, vr V 69, vr V 72, vi 0, vi 0, vi 0, vi 0, vi 0])) := rfl
    have hd : (BGl V D [vr V 64, vr V 65, vr V 66, vr V 67, vr V 69, vr V 72, vi 0, vi 0, vi 0, vi 0, vi 0] 40 3 5) 66 = some (arN V 4 5 (fun j => if j < 5 then some (V.2.1 (43 + j)) else none)) := rfl
    refine n_iload_n hX dX6_init_124 rfl ?_
    refine n_aload_n hX dX6_init_125 rfl ?_
    refine n_get (ci := 6) (j := 2) (N := 11) (T := TX6) hX dX6_init_126 (by repeat first | exact cup_eq | assumption | rw [cup_ne (by omega)]) rfl inX6 (by decide) tw_165 rfl ?_
    refine n_alen hX dX6_init_129 hd rfl ?_
    refine n_icmp_ge (tgt := 152) hX dX6_init_130 (by decide) ⟨by decide, by decide⟩ ⟨by decide, by decide⟩ (fun _ => k) (fun hc => absurd hc (by decide))
  | succ d ih =>
    intro i hi
    have hd63 : (BGl V D [vr V 64, vr V 65, vr V 66, vr V 67, vr V 69, vr V 72, vi 0, vi 0, vi 0, vi 0, vi 0] 40 3 i) 63 = some (.inr (6, [vr V 64, vr V 65, vr V 66, vr V 67, vr V 69, vr V 72, vi 0, vi 0, vi 0, vi 0, vi 0])) := rfl
    have hd : (BGl V D [vr V 64, vr V 65, vr V 66, vr V 67, vr V 69, vr V 72, vi 0, vi 0, vi 0, vi 0, vi 0] 40 3 i) 66 = some (arN V 4 5 (fun j => if j < i then some (V.2.1 (43 + j)) else none)) := rfl
    have hx := ha5 i (by omega)
    refine n_iload_n hX dX6_init_124 rfl ?_
    refine n_aload_n hX dX6_init_125 rfl ?_
    refine n_get (ci := 6) (j := 2) (N := 11) (T := TX6) hX dX6_init_126 (by repeat first | exact cup_eq | assumption | rw [cup_ne (by omega)]) rfl inX6 (by decide) tw_165 rfl ?_
    refine n_alen hX dX6_init_129 hd rfl ?_
    refine n_icmp_ge (tgt := 152) hX dX6_init_130 (by decide) ⟨by omega, by omega⟩ ⟨by decide, by decide⟩ (fun hc => absurd hc (by omega)) (fun _ => ?_)
    refine n_aload_n hX dX6_init_133 rfl ?_
    refine n_get (ci := 6) (j := 2) (N := 11) (T := TX6) hX dX6_init_134 (by repeat first | exact cup_eq | assumption | rw [cup_ne (by omega)]) rfl inX6 (by decide) tw_165 rfl ?_
    refine n_iload_n hX dX6_init_137 rfl ?_
    refine n_new (k := 43 + i) (ci := 5) (N := 2) (T := TX5) (ty := tyX5) (fs := blkF5) hX dX6_init_138 rfl inX5 tyX5_ok tw_22 tw_77 tw_5 blk5_ok (by omega) (by omega) (by omega) (by omega) ?_
    refine n_dup hX dX6_init_141 rfl ?_
    refine n_initN hX hKN tn_162 tw_79 tw_5 tw_80 rfl (by decide +kernel) dX6_init_142 (i_pile hI cup_eq (by omega) (by rw [show 43 + i + 5 = 48 + i by omega]; omega) (by omega)) (by omega) (by decide) rfl (Nat.le_of_ble_eq_true rfl) (by omega) (by omega) ?_
    refine n_aast (k := 66) (t := 4) (N := 5) (ci := 5) (k2 := 43 + i) (i := i) hX dX6_init_145 (by rw [cup_ne (by omega), cup_ne (by omega), cup_ne (by omega)]; exact hd) rfl cup_eq rfl rfl (by omega) (by decide) (hX.2.2.2.2.2.2.2.2.1 _ (by omega)) ?_
    refine n_iinc hX dX6_init_146 (i := 1) rfl ck_nx ?_
    refine n_goto (tgt := 124) hX dX6_init_149 (by decide) ?_
    refine n_eq ?_ (by omega) (by omega) (by omega) (ih (i + 1) (by omega))
    rw [up_next, show 43 + i + 5 = 48 + i by omega, cup_comm (k := 43 + i) (j := 48 + i) (by omega), cup_cup]
    exact BG_t (by omega)
def BGc (V : VX) (C : CM) : CM := fun q => if q < 76 then some (celR V q (mu6 q)) else C q
theorem mu6_p {q : Nat} (h : q < 40) : mu6 q = fun j => if j = 5 then -4 else 0 := by
  funext j
  unfold mu6
  by_cases e : j = 5
  · rw [if_pos ⟨h, e⟩, if_pos e]
  · rw [if_neg (fun x => e x.2), if_neg e, if_neg (fun x => by omega)]
theorem mu6_0 {q : Nat} (h : 40 ≤ q) (h2 : q ≠ 63) : mu6 q = fun _ => 0 := by
  funext j
  unfold mu6
  rw [if_neg (fun x => by omega), if_neg (fun x => h2 x.1)]
theorem DB6_lo {V : VX} {C : CM} {q : Nat} (h1 : 53 ≤ q) (h2 : q < 63) : DB6 V C q = some (celR V q (fun _ => 0)) := by
  unfold DB6 DGc
  rw [if_neg (by omega), if_neg (by omega), if_neg (by omega), if_neg (by omega)]
  by_cases e : q < 58
  · rw [if_pos (by omega), cel_obj (c := 5) (by obtain ⟨s, rfl⟩ : ∃ s, q = 53 + s := ⟨q - 53, by omega⟩; exact okd_dpile (by omega)) (by decide)]
    rfl
  · rw [if_neg (by omega), if_pos (by omega), cel_arr (n := 4) (by obtain ⟨s, rfl⟩ : ∃ s, q = 53 + s + 5 := ⟨q - 58, by omega⟩; exact alen_dpile (by omega)) (by decide)]
theorem DB6_hi {V : VX} {C : CM} {q : Nat} (h : 76 ≤ q) : DB6 V C q = C q := by
  unfold DB6 DGc DB5 DB4 DB3
  rw [if_neg (by omega), if_neg (by omega), if_neg (by omega), if_neg (by omega), if_neg (by omega), if_neg (by omega)]
  repeat rw [cup_ne (by omega)]
set_option maxHeartbeats 1000000 in
theorem BG_end {V : VX} {C : CM} (H : Heap) (hP : HC V (BGl V (DB6 V C) [vr V 64, vr V 65, vr V 66, vr V 67, vr V 69, vr V 72, vi 0, vi 0, vi 0, vi 0, vi 15] 40 3 5) H) : HC V (BGc V C) H := by
  intro q e' hq
  unfold BGc at hq
  by_cases h76 : q < 76
  · rw [if_pos h76] at hq
    cases hq
    have kk : ∀ e, BGl V (DB6 V C) [vr V 64, vr V 65, vr V 66, vr V 67, vr V 69, vr V 72, vi 0, vi 0, vi 0, vi 0, vi 15] 40 3 5 q = some e → (va_at V.1 vwCl (V.2.1 q, e) H → va_at V.1 vwCl (V.2.1 q, celR V q (mu6 q)) H) → q < 103 ∧ va_at V.1 vwCl (V.2.1 q, celR V q (mu6 q)) H := fun e he hh => ⟨by omega, hh (hP q e he).2⟩
    by_cases g1 : q < 40
    · refine kk (.inr (4, prt0)) ?_ (fun h => ?_)
      · unfold BGl
        rw [if_neg (by omega), if_neg (by omega), if_neg (by omega), if_neg (by omega), if_pos g1]
      · rw [cel_obj (okd_part g1) (by decide), mu6_p g1]; exact h
    by_cases g2 : q < 43
    · refine kk (.inr (0, blkF0)) ?_ (fun h => ?_)
      · unfold BGl
        rw [if_neg (by omega), if_neg (by omega), if_neg (by omega), if_neg (by omega), if_neg (by omega), if_pos (by omega)]
      · rw [cel_obj (c := 0) (by obtain ⟨s, rfl⟩ : ∃ s, q = 40 + s := ⟨q - 40, by omega⟩; exact okd_bed (by omega)) (by decide), mu6_0 (by omega) (by omega)]; exact h
    by_cases g3 : q < 48
    · refine kk (.inr (5, [vr V (q + 5), vi 0])) ?_ (fun h => ?_)
      · unfold BGl
        rw [if_neg (by omega), if_neg (by omega), if_neg (by omega), if_neg (by omega), if_neg (by omega), if_neg (by omega), if_pos (by omega)]
      · rw [cel_obj (c := 5) (by obtain ⟨s, rfl⟩ : ∃ s, q = 43 + s := ⟨q - 43, by omega⟩; exact okd_pile (by omega)) (by decide), mu6_0 (by omega) (by omega)]; exact h
    by_cases g4 : q < 53
    · refine kk (arI V 4 (fun _ => 0)) ?_ (fun h => ?_)
      · unfold BGl
        rw [if_neg (by omega), if_neg (by omega), if_neg (by omega), if_neg (by omega), if_neg (by omega), if_neg (by omega), if_neg (by omega), if_pos (by omega)]
      · rw [cel_arr (n := 4) (by obtain ⟨s, rfl⟩ : ∃ s, q = 43 + s + 5 := ⟨q - 48, by omega⟩; exact alen_pile (by omega)) (by decide), mu6_0 (by omega) (by omega)]; exact h
    by_cases g5 : q < 63
    · refine kk (celR V q (fun _ => 0)) ?_ (fun h => ?_)
      · unfold BGl
        rw [if_neg (by omega), if_neg (by omega), if_neg (by omega), if_neg (by omega), if_neg (by omega), if_neg (by omega), if_neg (by omega), if_neg (by omega)]
        exact DB6_lo (by omega) g5
      · rw [mu6_0 (by omega) (by omega)]; exact h
    have g6 : q = 63 ∨ q = 64 ∨ q = 65 ∨ q = 66 ∨ q = 67 ∨ q = 68 ∨ q = 69 ∨ q = 70 ∨ q = 71 ∨ q = 72 ∨ q = 73 ∨ q = 74 ∨ q = 75 := by omega
    rcases g6 with rfl | rfl | rfl | rfl | rfl | rfl | rfl | rfl | rfl | rfl | rfl | rfl | rfl
    · exact kk _ rfl (fun h => h)
    · exact kk _ rfl (fun h => arN_cg (fun j hj => by rw [if_pos hj, Nat.zero_add]) h)
    · exact kk _ rfl (fun h => arN_cg (fun j hj => by rw [if_pos hj]) h)
    · exact kk _ rfl (fun h => arN_cg (fun j hj => by rw [if_pos hj]) h)
    · exact kk _ rfl (fun h => h)
    · exact kk _ rfl (fun h => h)
    · exact kk _ rfl (fun h => h)
    · exact kk _ rfl (fun h => h)
    · exact kk _ rfl (fun h => h)
    · exact kk _ rfl (fun h => h)
    · exact kk _ rfl (fun h => arN_cg (fun j hj => by rw [if_pos hj]) h)
    · exact kk _ rfl (fun h => h)
    · exact kk _ rfl (fun h => h)
  · rw [if_neg h76] at hq
    refine hP q e' ?_
    unfold BGl
    rw [if_neg (by omega), if_neg (by omega), if_neg (by omega), if_neg (by omega), if_neg (by omega), if_neg (by omega), if_neg (by omega), if_neg (by omega), DB6_hi (by omega)]
    exact hq
set_option maxHeartbeats 4000000 in
theorem i_beds {lnch : Launch} {V : VX} (hI : InjV V) {h : Nat} {C : CM} (hC : C 63 = some (.inr (6, blkF6))) (ha : adrX V h) : CtN lnch yX6_init cX6_init 2 3 V 63 C h (BGc V C) 75 532 := by
  refine CtN_of (by decide) hI (by decide) (fun E hE hX hR hnm hKN hcl hsl => ?_)
  have hX : OkX V E RX6 cX6_init 2 3 := hX
  have hnm : E.2.2.1.2.1.name = "<init>" := hnm
  show GN V E C h 0 0 0 [some (vr V 63), none] []
  refine n_aload_n hX dX6_init_0 rfl ?_
  refine n_objInit hX rfl dX6_init_1 tw_15 tw_16 tw_17 (by omega) (Nat.le_of_ble_eq_true rfl) ?_
  refine n_eq (C' := cup C 63 (.inr (6, [.null, .null, .null, .null, .null, .null, vi 0, vi 0, vi 0, vi 0, vi 0]))) (cup_self hC).symm rfl rfl rfl ?_
  refine bo_4 hX hI (by decide) hKN hnm (by omega) (by omega) ha ?_
  refine n_iconst hX dX6_init_62 ?_
  refine n_istore_n hX dX6_init_63 (Nat.le_of_ble_eq_true rfl) ck_nx ?_
  refine bl_p hX hI (by decide) hKN (by omega) (by omega) ha ?_ 40 0 rfl
  refine n_iconst hX dX6_init_92 ?_
  refine n_istore_n hX dX6_init_93 (Nat.le_of_ble_eq_true rfl) ck_nx ?_
  refine bl_b hX hI (by decide) hKN (by omega) (by omega) ha ?_ 3 0 rfl
  refine n_iconst hX dX6_init_122 ?_
  refine n_istore_n hX dX6_init_123 (Nat.le_of_ble_eq_true rfl) ck_nx ?_
  refine bl_t hX hI (by decide) hKN (by omega) (by omega) ha ?_ 5 0 rfl
  refine n_aload_n hX dX6_init_152 rfl ?_
  refine n_bipush hX dX6_init_153 rfl ?_
  refine n_put2 (ci := 6) (j := 10) (N := 11) (T := TX6) (ty := .int) hX dX6_init_155 (show BGl V (DB6 V C) [vr V 64, vr V 65, vr V 66, vr V 67, vr V 69, vr V 72, vi 0, vi 0, vi 0, vi 0, vi 0] 40 3 5 63 = _ from rfl) rfl inX6 tyX6_ok nmX6 (by decide) tw_173 rfl (by decide +kernel) rfl rfl (by exact Nat.le_of_ble_eq_true rfl) (hX.2.2.2.2.2.2.2.2.1 _ (by omega)) [vr V 64, vr V 65, vr V 66, vr V 67, vr V 69, vr V 72, vi 0, vi 0, vi 0, vi 0, vi 15] rfl BG_63 ?_
  refine n_imp BG_end ?_
  exact n_vret hX hR dX6_init_158
