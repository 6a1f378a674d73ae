/-! the small constructors -/
theorem cup_cup {C : CM} {k : Nat} {a b : va_E} : cup (cup C k a) k b = cup C k b := by
  funext q
  by_cases e : q = k
  · rw [e, cup_eq, cup_eq]
  · rw [cup_ne e, cup_ne e, cup_ne e]
theorem cup_comm {C : CM} {k j : Nat} {a b : va_E} (h : k ≠ j) : cup (cup C k a) j b = cup (cup C j b) k a := by
  funext q
  by_cases e : q = k
  · rw [e, cup_ne h, cup_eq, cup_eq]
  · rw [cup_ne e]
    by_cases e2 : q = j
    · rw [e2, cup_eq, cup_eq]
    · rw [cup_ne e2, cup_ne e2, cup_ne e]
def blkF0 : List Value := [vi 0, vi 0, vi 0, vi 0]
theorem blk0_ok : ∀ j, j < 4 → defaultValue (tyX0 j) = vp_V blkF0 j := by decide +kernel
def blkF1 : List Value := [.null, .null, .null, vi 0]
theorem blk1_ok : ∀ j, j < 4 → defaultValue (tyX1 j) = vp_V blkF1 j := by decide +kernel
def blkF2 : List Value := [.null, vi 0, vi 0, vi 0, vi 0]
theorem blk2_ok : ∀ j, j < 5 → defaultValue (tyX2 j) = vp_V blkF2 j := by decide +kernel
def blkF3 : List Value := [.null, .null, vi 0, vi 0]
theorem blk3_ok : ∀ j, j < 4 → defaultValue (tyX3 j) = vp_V blkF3 j := by decide +kernel
def blkF4 : List Value := [vi 0, vi 0, vi 0, vi 0, vi 0, vi 0, vi 0, vi 0]
theorem blk4_ok : ∀ j, j < 8 → defaultValue (tyX4 j) = vp_V blkF4 j := by decide +kernel
def blkF5 : List Value := [.null, vi 0]
theorem blk5_ok : ∀ j, j < 2 → defaultValue (tyX5 j) = vp_V blkF5 j := by decide +kernel
def blkF6 : List Value := [.null, .null, .null, .null, .null, .null, vi 0, vi 0, vi 0, vi 0, vi 0]
theorem blk6_ok : ∀ j, j < 11 → defaultValue (tyX6 j) = vp_V blkF6 j := by decide +kernel
def blkF7 : List Value := [vi 0, .null, .null, .null, .null, .null, .null, .null, .null, .null, .null, .null, .null, vi 0, vi 0, .null, .null, vi 0, .null, vi 0, vi 0, vi 0, .null, .null, .null, .null, vi 0, .null, .null, .null, .null, .null, .null, .null]
theorem blk7_ok : ∀ j, j < 34 → defaultValue (tyX7 j) = vp_V blkF7 j := by decide +kernel
set_option maxHeartbeats 4000000 in
theorem i_bed {lnch : Launch} {V : VX} (hI : InjV V) {k h : Nat} {C : CM} (hC : C k = some (.inr (0, blkF0))) (hk : k < 103) : CtN lnch yX0_init cX0_init 1 1 V k C h (C) 0 0 := by
  refine CtN_of (by decide) hI (by decide) (fun E hE hX hR hnm hKN hcl hsl => ?_)
  have hX : OkX V E RX0 cX0_init 1 1 := hX
  show GN V E C h 0 0 0 [some (vr V k)] []
  refine n_aload_n hX dX0_init_0 rfl ?_
  refine n_objInit hX rfl dX0_init_1 tw_144 tw_16 tw_17 (by omega) (Nat.le_of_ble_eq_true rfl) ?_
  exact n_vret hX hR dX0_init_4
set_option maxHeartbeats 4000000 in
theorem i_part {lnch : Launch} {V : VX} (hI : InjV V) {k h : Nat} {C : CM} (hC : C k = some (.inr (4, blkF4))) (hk : k < 103) : CtN lnch yX4_init cX4_init 1 1 V k C h (cup C k (.inr (4, [vi 0, vi 0, vi 0, vi 0, vi 0, vi (-4), vi 0, vi 0]))) 0 0 := by
  refine CtN_of (by decide) hI (by decide) (fun E hE hX hR hnm hKN hcl hsl => ?_)
  have hX : OkX V E RX4 cX4_init 1 1 := hX
  show GN V E C h 0 0 0 [some (vr V k)] []
  refine n_aload_n hX dX4_init_0 rfl ?_
  refine n_objInit hX rfl dX4_init_1 tw_108 tw_16 tw_17 (by omega) (Nat.le_of_ble_eq_true rfl) ?_
  refine n_aload_n hX dX4_init_4 rfl ?_
  refine n_iconst hX dX4_init_5 ?_
  refine n_put (ci := 4) (j := 4) (N := 8) (T := TX4) (ty := .int) hX dX4_init_6 (by repeat first | exact cup_eq | assumption | rw [cup_ne (by omega)]) rfl inX4 tyX4_ok nmX4 (by decide) tw_116 rfl (by decide +kernel) rfl rfl (by exact Nat.le_of_ble_eq_true rfl) (hX.2.2.2.2.2.2.2.2.1 _ (by omega)) ?_
  refine n_aload_n hX dX4_init_9 rfl ?_
  refine n_bipush hX dX4_init_10 rfl ?_
  refine n_put (ci := 4) (j := 5) (N := 8) (T := TX4) (ty := .int) hX dX4_init_12 (by repeat first | exact cup_eq | assumption | rw [cup_ne (by omega)]) rfl inX4 tyX4_ok nmX4 (by decide) tw_118 rfl (by decide +kernel) rfl rfl (by exact Nat.le_of_ble_eq_true rfl) (hX.2.2.2.2.2.2.2.2.1 _ (by omega)) ?_
  rw [cup_cup]
  exact n_vret hX hR dX4_init_15
set_option maxHeartbeats 4000000 in
theorem i_pile {lnch : Launch} {V : VX} (hI : InjV V) {k h : Nat} {C : CM} (hC : C k = some (.inr (5, blkF5))) (hk : k < 103) (hq : V.2.1 (k + 5) = h) (hk5 : k + 5 < 103) : CtN lnch yX5_init cX5_init 1 1 V k C h (cup (cup C (k + 5) (arI V 4 (fun _ => 0))) k (.inr (5, [vr V (k + 5), vi 0]))) 1 4 := by
  refine CtN_of (by decide) hI (by decide) (fun E hE hX hR hnm hKN hcl hsl => ?_)
  have hX : OkX V E RX5 cX5_init 1 1 := hX
  show GN V E C h 0 0 0 [some (vr V k)] []
  refine n_aload_n hX dX5_init_0 rfl ?_
  refine n_objInit hX rfl dX5_init_1 tw_81 tw_16 tw_17 (by omega) (Nat.le_of_ble_eq_true rfl) ?_
  refine n_aload_n hX dX5_init_4 rfl ?_
  refine n_iconst hX dX5_init_5 ?_
  refine n_newI (k := k + 5) (N := 4) hX dX5_init_6 tw_50 rfl (by decide) (by omega) (by omega) (by omega) (by omega) ?_
  refine n_putF (ci := 5) (j := 0) (N := 2) (T := TX5) (ty := .array .int) hX dX5_init_8 (by repeat first | exact cup_eq | assumption | rw [cup_ne (by omega)]) rfl inX5 tyX5_ok nmX5 (by decide) tw_82 rfl hnm rfl (by decide +kernel) rfl rfl (by exact Nat.le_of_ble_eq_true rfl) (hX.2.2.2.2.2.2.2.2.1 _ (by omega)) ?_
  exact n_vret hX hR dX5_init_11
set_option maxHeartbeats 4000000 in
theorem i_lorry {lnch : Launch} {V : VX} (hI : InjV V) {k h : Nat} {C : CM} (hC : C k = some (.inr (2, blkF2))) (hk : k < 103) (hq : V.2.1 (k + 1) = h) (hk5 : k + 1 < 103) : CtN lnch yX2_init cX2_init 1 1 V k C h (cup (cup C (k + 1) (arI V 4 (fun _ => 0))) k (.inr (2, [vr V (k + 1), vi 0, vi 0, vi 0, vi 0]))) 1 4 := by
  refine CtN_of (by decide) hI (by decide) (fun E hE hX hR hnm hKN hcl hsl => ?_)
  have hX : OkX V E RX2 cX2_init 1 1 := hX
  show GN V E C h 0 0 0 [some (vr V k)] []
  refine n_aload_n hX dX2_init_0 rfl ?_
  refine n_objInit hX rfl dX2_init_1 tw_29 tw_16 tw_17 (by omega) (Nat.le_of_ble_eq_true rfl) ?_
  refine n_aload_n hX dX2_init_4 rfl ?_
  refine n_iconst hX dX2_init_5 ?_
  refine n_newI (k := k + 1) (N := 4) hX dX2_init_6 tw_50 rfl (by decide) (by omega) (by omega) (by omega) (by omega) ?_
  refine n_putF (ci := 2) (j := 0) (N := 5) (T := TX2) (ty := .array .int) hX dX2_init_8 (by repeat first | exact cup_eq | assumption | rw [cup_ne (by omega)]) rfl inX2 tyX2_ok nmX2 (by decide) tw_30 rfl hnm rfl (by decide +kernel) rfl rfl (by exact Nat.le_of_ble_eq_true rfl) (hX.2.2.2.2.2.2.2.2.1 _ (by omega)) ?_
  exact n_vret hX hR dX2_init_11
set_option maxHeartbeats 4000000 in
theorem i_packer {lnch : Launch} {V : VX} (hI : InjV V) {k h : Nat} {C : CM} (hC : C k = some (.inr (3, blkF3))) (hk : k < 103) (hq : V.2.1 (k + 1) = h) (hq2 : V.2.1 (k + 2) = h + 1) (hk5 : k + 2 < 103) : CtN lnch yX3_init cX3_init 1 1 V k C h (cup (cup (cup (cup C (k + 1) (arI V 12 (fun _ => 0))) k (.inr (3, [vr V (k + 1), .null, vi 0, vi 0]))) (k + 2) (arI V 12 (fun _ => 0))) k (.inr (3, [vr V (k + 1), vr V (k + 2), vi 0, vi 0]))) 2 24 := by
  refine CtN_of (by decide) hI (by decide) (fun E hE hX hR hnm hKN hcl hsl => ?_)
  have hX : OkX V E RX3 cX3_init 1 1 := hX
  show GN V E C h 0 0 0 [some (vr V k)] []
  refine n_aload_n hX dX3_init_0 rfl ?_
  refine n_objInit hX rfl dX3_init_1 tw_56 tw_16 tw_17 (by omega) (Nat.le_of_ble_eq_true rfl) ?_
  refine n_aload_n hX dX3_init_4 rfl ?_
  refine n_bipush hX dX3_init_5 rfl ?_
  refine n_newI (k := k + 1) (N := 12) hX dX3_init_7 tw_50 rfl (by decide) (by omega) (by omega) (by omega) (by omega) ?_
  refine n_putF (ci := 3) (j := 0) (N := 4) (T := TX3) (ty := .array .int) hX dX3_init_9 (by repeat first | exact cup_eq | assumption | rw [cup_ne (by omega)]) rfl inX3 tyX3_ok nmX3 (by decide) tw_57 rfl hnm rfl (by decide +kernel) rfl rfl (by exact Nat.le_of_ble_eq_true rfl) (hX.2.2.2.2.2.2.2.2.1 _ (by omega)) ?_
  refine n_aload_n hX dX3_init_12 rfl ?_
  refine n_bipush hX dX3_init_13 rfl ?_
  refine n_newI (k := k + 2) (N := 12) hX dX3_init_15 tw_50 rfl (by decide) (by omega) (by omega) (by omega) (by omega) ?_
  refine n_putF (ci := 3) (j := 1) (N := 4) (T := TX3) (ty := .array .int) hX dX3_init_17 (by repeat first | exact cup_eq | assumption | rw [cup_ne (by omega)]) rfl inX3 tyX3_ok nmX3 (by decide) tw_58 rfl hnm rfl (by decide +kernel) rfl rfl (by exact Nat.le_of_ble_eq_true rfl) (hX.2.2.2.2.2.2.2.2.1 _ (by omega)) ?_
  exact n_vret hX hR dX3_init_20
