theorem ok72 : okd 72 = 1 := rfl
theorem ok67 : okd 67 = 2 := rfl
theorem ok69 : okd 69 = 3 := rfl
theorem ok63 : okd 63 = 6 := rfl
theorem ok76 : okd 76 = 7 := rfl
section GF
variable {V : VX} {E : EX} {cc : ByteArray} {n lvl pc : Nat} {μ : Mem} {L : List (Option Value)} {st : List Value}
theorem gf_X2_9 (hX : OkX V E RX2 cc n lvl) (d : decode cc pc = .ok (.getfield 9, 3))  (k : G V E μ (pc + 3) L (vr V 68 :: st)) : G V E μ pc L (vr V 67 :: st) := by
  intro H locs ls hP hS hl
  exact va_get (D := V.1) (ci := 2) (v := vr V 68) (C := RX2) (T := TX2) (N := 5) (fs := obF V 2 67 (μ 67)) hX.1 hX.2.1 hX.2.2.2.2.1 inX2 hX.2.2.2.1 hX.2.2.2.2.2.2.1 hP 67 (by rw [wld_at (okd_alen (k := 67) (by rw [ok67]; decide)).1, cel_obj ok67 (by decide)]) rfl 0 (by decide) (hX.2.2.2.2.1 _ tw_30) (fun _ h9 => h9) rfl d (k H locs ls hP hS hl)
theorem gf_X2_15 (hX : OkX V E RX2 cc n lvl) (d : decode cc pc = .ok (.getfield 15, 3))  (k : G V E μ (pc + 3) L (vi (μ 67 1) :: st)) : G V E μ pc L (vr V 67 :: st) := by
  intro H locs ls hP hS hl
  exact va_get (D := V.1) (ci := 2) (v := vi (μ 67 1)) (C := RX2) (T := TX2) (N := 5) (fs := obF V 2 67 (μ 67)) hX.1 hX.2.1 hX.2.2.2.2.1 inX2 hX.2.2.2.1 hX.2.2.2.2.2.2.1 hP 67 (by rw [wld_at (okd_alen (k := 67) (by rw [ok67]; decide)).1, cel_obj ok67 (by decide)]) rfl 1 (by decide) (hX.2.2.2.2.1 _ tw_31) (fun _ h9 => h9) rfl d (k H locs ls hP hS hl)
theorem pf_X2_15 (hX : OkX V E RX2 cc n lvl) (d : decode cc pc = .ok (.putfield 15, 3))  {z : Int}  (k : G V E (mset μ 67 1 z) (pc + 3) L st) : G V E μ pc L (vi z :: vr V 67 :: st) := by
  intro H locs ls hP hS hl
  refine va_put (D := V.1) (ci := 2) (v := vi z) (ty := .int) (C := RX2) (T := TX2) (N := 5) (fs := obF V 2 67 (μ 67)) hX.1 hX.2.1 hX.2.2.2.2.1 inX2 tyX2 tyX2_ok nmX2 hX.2.2.2.1 hX.2.2.2.2.2.2.1 hP (wld_D hX.2.2.2.2.2.2.2.1 hX.2.2.2.2.2.2.2.2.1 μ) hS 67 (by rw [wld_at (okd_alen (k := 67) (by rw [ok67]; decide)).1, cel_obj ok67 (by decide)]) rfl 1 (by decide) (hX.2.2.2.2.1 _ tw_31) (fun _ h9 => h9) rfl (by decide +kernel) rfl rfl (Nat.le_of_ble_eq_true rfl) d (fun H1 locs1 hP1 _ hS1 => ?_)
  rw [wld_set (fun j' => if j' = 1 then z else μ 67 j') _ (by rw [cel_obj ok67 (by decide)]; rfl), mset_row] at hP1
  exact k H1 locs1 ls hP1 hS1 hl
theorem gf_X6_212 (hX : OkX V E RX6 cc n lvl) (d : decode cc pc = .ok (.getfield 212, 3))  (k : G V E μ (pc + 3) L (vi (μ 67 1) :: st)) : G V E μ pc L (vr V 67 :: st) := by
  intro H locs ls hP hS hl
  exact va_getN (D := V.1) (ci := 2) (v := vi (μ 67 1)) (C := RX2) (T := TX2) (N := 5) (fs := obF V 2 67 (μ 67)) hX.1 hX.2.1 hX.2.2.2.2.1 inX2 hX.2.2.2.1 hX.2.2.2.2.2.2.1 hP 67 (by rw [wld_at (okd_alen (k := 67) (by rw [ok67]; decide)).1, cel_obj ok67 (by decide)]) rfl 1 (by decide) (va_Nw.use rfl (hX.2.2.2.2.2.1 _ tn_32)) (fun _ h9 => h9) rfl d (k H locs ls hP hS hl)
theorem pf_X6_212 (hX : OkX V E RX6 cc n lvl) (d : decode cc pc = .ok (.putfield 212, 3))  {z : Int}  (k : G V E (mset μ 67 1 z) (pc + 3) L st) : G V E μ pc L (vi z :: vr V 67 :: st) := by
  intro H locs ls hP hS hl
  refine va_putN (D := V.1) (ci := 2) (v := vi z) (ty := .int) (C := RX2) (T := TX2) (N := 5) (fs := obF V 2 67 (μ 67)) hX.1 hX.2.1 hX.2.2.2.2.1 inX2 tyX2 tyX2_ok nmX2 hX.2.2.2.1 hX.2.2.2.2.2.2.1 hP (wld_D hX.2.2.2.2.2.2.2.1 hX.2.2.2.2.2.2.2.2.1 μ) hS 67 (by rw [wld_at (okd_alen (k := 67) (by rw [ok67]; decide)).1, cel_obj ok67 (by decide)]) rfl 1 (by decide) (va_Nw.use rfl (hX.2.2.2.2.2.1 _ tn_32)) (fun _ h9 => h9) rfl (by decide +kernel) rfl rfl (Nat.le_of_ble_eq_true rfl) d (fun H1 locs1 hP1 _ hS1 => ?_)
  rw [wld_set (fun j' => if j' = 1 then z else μ 67 j') _ (by rw [cel_obj ok67 (by decide)]; rfl), mset_row] at hP1
  exact k H1 locs1 ls hP1 hS1 hl
theorem gf_X2_19 (hX : OkX V E RX2 cc n lvl) (d : decode cc pc = .ok (.getfield 19, 3))  (k : G V E μ (pc + 3) L (vi (μ 67 2) :: st)) : G V E μ pc L (vr V 67 :: st) := by
  intro H locs ls hP hS hl
  exact va_get (D := V.1) (ci := 2) (v := vi (μ 67 2)) (C := RX2) (T := TX2) (N := 5) (fs := obF V 2 67 (μ 67)) hX.1 hX.2.1 hX.2.2.2.2.1 inX2 hX.2.2.2.1 hX.2.2.2.2.2.2.1 hP 67 (by rw [wld_at (okd_alen (k := 67) (by rw [ok67]; decide)).1, cel_obj ok67 (by decide)]) rfl 2 (by decide) (hX.2.2.2.2.1 _ tw_33) (fun _ h9 => h9) rfl d (k H locs ls hP hS hl)
theorem pf_X2_19 (hX : OkX V E RX2 cc n lvl) (d : decode cc pc = .ok (.putfield 19, 3))  {z : Int}  (k : G V E (mset μ 67 2 z) (pc + 3) L st) : G V E μ pc L (vi z :: vr V 67 :: st) := by
  intro H locs ls hP hS hl
  refine va_put (D := V.1) (ci := 2) (v := vi z) (ty := .int) (C := RX2) (T := TX2) (N := 5) (fs := obF V 2 67 (μ 67)) hX.1 hX.2.1 hX.2.2.2.2.1 inX2 tyX2 tyX2_ok nmX2 hX.2.2.2.1 hX.2.2.2.2.2.2.1 hP (wld_D hX.2.2.2.2.2.2.2.1 hX.2.2.2.2.2.2.2.2.1 μ) hS 67 (by rw [wld_at (okd_alen (k := 67) (by rw [ok67]; decide)).1, cel_obj ok67 (by decide)]) rfl 2 (by decide) (hX.2.2.2.2.1 _ tw_33) (fun _ h9 => h9) rfl (by decide +kernel) rfl rfl (Nat.le_of_ble_eq_true rfl) d (fun H1 locs1 hP1 _ hS1 => ?_)
  rw [wld_set (fun j' => if j' = 2 then z else μ 67 j') _ (by rw [cel_obj ok67 (by decide)]; rfl), mset_row] at hP1
  exact k H1 locs1 ls hP1 hS1 hl
theorem gf_X6_220 (hX : OkX V E RX6 cc n lvl) (d : decode cc pc = .ok (.getfield 220, 3))  (k : G V E μ (pc + 3) L (vi (μ 67 2) :: st)) : G V E μ pc L (vr V 67 :: st) := by
  intro H locs ls hP hS hl
  exact va_getN (D := V.1) (ci := 2) (v := vi (μ 67 2)) (C := RX2) (T := TX2) (N := 5) (fs := obF V 2 67 (μ 67)) hX.1 hX.2.1 hX.2.2.2.2.1 inX2 hX.2.2.2.1 hX.2.2.2.2.2.2.1 hP 67 (by rw [wld_at (okd_alen (k := 67) (by rw [ok67]; decide)).1, cel_obj ok67 (by decide)]) rfl 2 (by decide) (va_Nw.use rfl (hX.2.2.2.2.2.1 _ tn_34)) (fun _ h9 => h9) rfl d (k H locs ls hP hS hl)
theorem pf_X6_220 (hX : OkX V E RX6 cc n lvl) (d : decode cc pc = .ok (.putfield 220, 3))  {z : Int}  (k : G V E (mset μ 67 2 z) (pc + 3) L st) : G V E μ pc L (vi z :: vr V 67 :: st) := by
  intro H locs ls hP hS hl
  refine va_putN (D := V.1) (ci := 2) (v := vi z) (ty := .int) (C := RX2) (T := TX2) (N := 5) (fs := obF V 2 67 (μ 67)) hX.1 hX.2.1 hX.2.2.2.2.1 inX2 tyX2 tyX2_ok nmX2 hX.2.2.2.1 hX.2.2.2.2.2.2.1 hP (wld_D hX.2.2.2.2.2.2.2.1 hX.2.2.2.2.2.2.2.2.1 μ) hS 67 (by rw [wld_at (okd_alen (k := 67) (by rw [ok67]; decide)).1, cel_obj ok67 (by decide)]) rfl 2 (by decide) (va_Nw.use rfl (hX.2.2.2.2.2.1 _ tn_34)) (fun _ h9 => h9) rfl (by decide +kernel) rfl rfl (Nat.le_of_ble_eq_true rfl) d (fun H1 locs1 hP1 _ hS1 => ?_)
  rw [wld_set (fun j' => if j' = 2 then z else μ 67 j') _ (by rw [cel_obj ok67 (by decide)]; rfl), mset_row] at hP1
  exact k H1 locs1 ls hP1 hS1 hl
theorem gf_X2_22 (hX : OkX V E RX2 cc n lvl) (d : decode cc pc = .ok (.getfield 22, 3))  (k : G V E μ (pc + 3) L (vi (μ 67 3) :: st)) : G V E μ pc L (vr V 67 :: st) := by
  intro H locs ls hP hS hl
  exact va_get (D := V.1) (ci := 2) (v := vi (μ 67 3)) (C := RX2) (T := TX2) (N := 5) (fs := obF V 2 67 (μ 67)) hX.1 hX.2.1 hX.2.2.2.2.1 inX2 hX.2.2.2.1 hX.2.2.2.2.2.2.1 hP 67 (by rw [wld_at (okd_alen (k := 67) (by rw [ok67]; decide)).1, cel_obj ok67 (by decide)]) rfl 3 (by decide) (hX.2.2.2.2.1 _ tw_35) (fun _ h9 => h9) rfl d (k H locs ls hP hS hl)
theorem pf_X2_22 (hX : OkX V E RX2 cc n lvl) (d : decode cc pc = .ok (.putfield 22, 3))  {z : Int}  (k : G V E (mset μ 67 3 z) (pc + 3) L st) : G V E μ pc L (vi z :: vr V 67 :: st) := by
  intro H locs ls hP hS hl
  refine va_put (D := V.1) (ci := 2) (v := vi z) (ty := .int) (C := RX2) (T := TX2) (N := 5) (fs := obF V 2 67 (μ 67)) hX.1 hX.2.1 hX.2.2.2.2.1 inX2 tyX2 tyX2_ok nmX2 hX.2.2.2.1 hX.2.2.2.2.2.2.1 hP (wld_D hX.2.2.2.2.2.2.2.1 hX.2.2.2.2.2.2.2.2.1 μ) hS 67 (by rw [wld_at (okd_alen (k := 67) (by rw [ok67]; decide)).1, cel_obj ok67 (by decide)]) rfl 3 (by decide) (hX.2.2.2.2.1 _ tw_35) (fun _ h9 => h9) rfl (by decide +kernel) rfl rfl (Nat.le_of_ble_eq_true rfl) d (fun H1 locs1 hP1 _ hS1 => ?_)
  rw [wld_set (fun j' => if j' = 3 then z else μ 67 j') _ (by rw [cel_obj ok67 (by decide)]; rfl), mset_row] at hP1
  exact k H1 locs1 ls hP1 hS1 hl
theorem gf_X6_221 (hX : OkX V E RX6 cc n lvl) (d : decode cc pc = .ok (.getfield 221, 3))  (k : G V E μ (pc + 3) L (vi (μ 67 3) :: st)) : G V E μ pc L (vr V 67 :: st) := by
  intro H locs ls hP hS hl
  exact va_getN (D := V.1) (ci := 2) (v := vi (μ 67 3)) (C := RX2) (T := TX2) (N := 5) (fs := obF V 2 67 (μ 67)) hX.1 hX.2.1 hX.2.2.2.2.1 inX2 hX.2.2.2.1 hX.2.2.2.2.2.2.1 hP 67 (by rw [wld_at (okd_alen (k := 67) (by rw [ok67]; decide)).1, cel_obj ok67 (by decide)]) rfl 3 (by decide) (va_Nw.use rfl (hX.2.2.2.2.2.1 _ tn_36)) (fun _ h9 => h9) rfl d (k H locs ls hP hS hl)
theorem pf_X6_221 (hX : OkX V E RX6 cc n lvl) (d : decode cc pc = .ok (.putfield 221, 3))  {z : Int}  (k : G V E (mset μ 67 3 z) (pc + 3) L st) : G V E μ pc L (vi z :: vr V 67 :: st) := by
  intro H locs ls hP hS hl
  refine va_putN (D := V.1) (ci := 2) (v := vi z) (ty := .int) (C := RX2) (T := TX2) (N := 5) (fs := obF V 2 67 (μ 67)) hX.1 hX.2.1 hX.2.2.2.2.1 inX2 tyX2 tyX2_ok nmX2 hX.2.2.2.1 hX.2.2.2.2.2.2.1 hP (wld_D hX.2.2.2.2.2.2.2.1 hX.2.2.2.2.2.2.2.2.1 μ) hS 67 (by rw [wld_at (okd_alen (k := 67) (by rw [ok67]; decide)).1, cel_obj ok67 (by decide)]) rfl 3 (by decide) (va_Nw.use rfl (hX.2.2.2.2.2.1 _ tn_36)) (fun _ h9 => h9) rfl (by decide +kernel) rfl rfl (Nat.le_of_ble_eq_true rfl) d (fun H1 locs1 hP1 _ hS1 => ?_)
  rw [wld_set (fun j' => if j' = 3 then z else μ 67 j') _ (by rw [cel_obj ok67 (by decide)]; rfl), mset_row] at hP1
  exact k H1 locs1 ls hP1 hS1 hl
theorem gf_X2_29 (hX : OkX V E RX2 cc n lvl) (d : decode cc pc = .ok (.getfield 29, 3))  (k : G V E μ (pc + 3) L (vi (μ 67 4) :: st)) : G V E μ pc L (vr V 67 :: st) := by
  intro H locs ls hP hS hl
  exact va_get (D := V.1) (ci := 2) (v := vi (μ 67 4)) (C := RX2) (T := TX2) (N := 5) (fs := obF V 2 67 (μ 67)) hX.1 hX.2.1 hX.2.2.2.2.1 inX2 hX.2.2.2.1 hX.2.2.2.2.2.2.1 hP 67 (by rw [wld_at (okd_alen (k := 67) (by rw [ok67]; decide)).1, cel_obj ok67 (by decide)]) rfl 4 (by decide) (hX.2.2.2.2.1 _ tw_37) (fun _ h9 => h9) rfl d (k H locs ls hP hS hl)
theorem pf_X2_29 (hX : OkX V E RX2 cc n lvl) (d : decode cc pc = .ok (.putfield 29, 3))  {z : Int}  (k : G V E (mset μ 67 4 z) (pc + 3) L st) : G V E μ pc L (vi z :: vr V 67 :: st) := by
  intro H locs ls hP hS hl
  refine va_put (D := V.1) (ci := 2) (v := vi z) (ty := .int) (C := RX2) (T := TX2) (N := 5) (fs := obF V 2 67 (μ 67)) hX.1 hX.2.1 hX.2.2.2.2.1 inX2 tyX2 tyX2_ok nmX2 hX.2.2.2.1 hX.2.2.2.2.2.2.1 hP (wld_D hX.2.2.2.2.2.2.2.1 hX.2.2.2.2.2.2.2.2.1 μ) hS 67 (by rw [wld_at (okd_alen (k := 67) (by rw [ok67]; decide)).1, cel_obj ok67 (by decide)]) rfl 4 (by decide) (hX.2.2.2.2.1 _ tw_37) (fun _ h9 => h9) rfl (by decide +kernel) rfl rfl (Nat.le_of_ble_eq_true rfl) d (fun H1 locs1 hP1 _ hS1 => ?_)
  rw [wld_set (fun j' => if j' = 4 then z else μ 67 j') _ (by rw [cel_obj ok67 (by decide)]; rfl), mset_row] at hP1
  exact k H1 locs1 ls hP1 hS1 hl
theorem gf_X6_224 (hX : OkX V E RX6 cc n lvl) (d : decode cc pc = .ok (.getfield 224, 3))  (k : G V E μ (pc + 3) L (vi (μ 67 4) :: st)) : G V E μ pc L (vr V 67 :: st) := by
  intro H locs ls hP hS hl
  exact va_getN (D := V.1) (ci := 2) (v := vi (μ 67 4)) (C := RX2) (T := TX2) (N := 5) (fs := obF V 2 67 (μ 67)) hX.1 hX.2.1 hX.2.2.2.2.1 inX2 hX.2.2.2.1 hX.2.2.2.2.2.2.1 hP 67 (by rw [wld_at (okd_alen (k := 67) (by rw [ok67]; decide)).1, cel_obj ok67 (by decide)]) rfl 4 (by decide) (va_Nw.use rfl (hX.2.2.2.2.2.1 _ tn_38)) (fun _ h9 => h9) rfl d (k H locs ls hP hS hl)
theorem pf_X6_224 (hX : OkX V E RX6 cc n lvl) (d : decode cc pc = .ok (.putfield 224, 3))  {z : Int}  (k : G V E (mset μ 67 4 z) (pc + 3) L st) : G V E μ pc L (vi z :: vr V 67 :: st) := by
  intro H locs ls hP hS hl
  refine va_putN (D := V.1) (ci := 2) (v := vi z) (ty := .int) (C := RX2) (T := TX2) (N := 5) (fs := obF V 2 67 (μ 67)) hX.1 hX.2.1 hX.2.2.2.2.1 inX2 tyX2 tyX2_ok nmX2 hX.2.2.2.1 hX.2.2.2.2.2.2.1 hP (wld_D hX.2.2.2.2.2.2.2.1 hX.2.2.2.2.2.2.2.2.1 μ) hS 67 (by rw [wld_at (okd_alen (k := 67) (by rw [ok67]; decide)).1, cel_obj ok67 (by decide)]) rfl 4 (by decide) (va_Nw.use rfl (hX.2.2.2.2.2.1 _ tn_38)) (fun _ h9 => h9) rfl (by decide +kernel) rfl rfl (Nat.le_of_ble_eq_true rfl) d (fun H1 locs1 hP1 _ hS1 => ?_)
  rw [wld_set (fun j' => if j' = 4 then z else μ 67 j') _ (by rw [cel_obj ok67 (by decide)]; rfl), mset_row] at hP1
  exact k H1 locs1 ls hP1 hS1 hl
theorem gf_X3_9 (hX : OkX V E RX3 cc n lvl) (d : decode cc pc = .ok (.getfield 9, 3))  (k : G V E μ (pc + 3) L (vr V 70 :: st)) : G V E μ pc L (vr V 69 :: st) := by
  intro H locs ls hP hS hl
  exact va_get (D := V.1) (ci := 3) (v := vr V 70) (C := RX3) (T := TX3) (N := 4) (fs := obF V 3 69 (μ 69)) hX.1 hX.2.1 hX.2.2.2.2.1 inX3 hX.2.2.2.1 hX.2.2.2.2.2.2.1 hP 69 (by rw [wld_at (okd_alen (k := 69) (by rw [ok69]; decide)).1, cel_obj ok69 (by decide)]) rfl 0 (by decide) (hX.2.2.2.2.1 _ tw_57) (fun _ h9 => h9) rfl d (k H locs ls hP hS hl)
theorem gf_X3_15 (hX : OkX V E RX3 cc n lvl) (d : decode cc pc = .ok (.getfield 15, 3))  (k : G V E μ (pc + 3) L (vr V 71 :: st)) : G V E μ pc L (vr V 69 :: st) := by
  intro H locs ls hP hS hl
  exact va_get (D := V.1) (ci := 3) (v := vr V 71) (C := RX3) (T := TX3) (N := 4) (fs := obF V 3 69 (μ 69)) hX.1 hX.2.1 hX.2.2.2.2.1 inX3 hX.2.2.2.1 hX.2.2.2.2.2.2.1 hP 69 (by rw [wld_at (okd_alen (k := 69) (by rw [ok69]; decide)).1, cel_obj ok69 (by decide)]) rfl 1 (by decide) (hX.2.2.2.2.1 _ tw_58) (fun _ h9 => h9) rfl d (k H locs ls hP hS hl)
theorem gf_X3_18 (hX : OkX V E RX3 cc n lvl) (d : decode cc pc = .ok (.getfield 18, 3))  (k : G V E μ (pc + 3) L (vi (μ 69 2) :: st)) : G V E μ pc L (vr V 69 :: st) := by
  intro H locs ls hP hS hl
  exact va_get (D := V.1) (ci := 3) (v := vi (μ 69 2)) (C := RX3) (T := TX3) (N := 4) (fs := obF V 3 69 (μ 69)) hX.1 hX.2.1 hX.2.2.2.2.1 inX3 hX.2.2.2.1 hX.2.2.2.2.2.2.1 hP 69 (by rw [wld_at (okd_alen (k := 69) (by rw [ok69]; decide)).1, cel_obj ok69 (by decide)]) rfl 2 (by decide) (hX.2.2.2.2.1 _ tw_59) (fun _ h9 => h9) rfl d (k H locs ls hP hS hl)
theorem pf_X3_18 (hX : OkX V E RX3 cc n lvl) (d : decode cc pc = .ok (.putfield 18, 3))  {z : Int}  (k : G V E (mset μ 69 2 z) (pc + 3) L st) : G V E μ pc L (vi z :: vr V 69 :: st) := by
  intro H locs ls hP hS hl
  refine va_put (D := V.1) (ci := 3) (v := vi z) (ty := .int) (C := RX3) (T := TX3) (N := 4) (fs := obF V 3 69 (μ 69)) hX.1 hX.2.1 hX.2.2.2.2.1 inX3 tyX3 tyX3_ok nmX3 hX.2.2.2.1 hX.2.2.2.2.2.2.1 hP (wld_D hX.2.2.2.2.2.2.2.1 hX.2.2.2.2.2.2.2.2.1 μ) hS 69 (by rw [wld_at (okd_alen (k := 69) (by rw [ok69]; decide)).1, cel_obj ok69 (by decide)]) rfl 2 (by decide) (hX.2.2.2.2.1 _ tw_59) (fun _ h9 => h9) rfl (by decide +kernel) rfl rfl (Nat.le_of_ble_eq_true rfl) d (fun H1 locs1 hP1 _ hS1 => ?_)
  rw [wld_set (fun j' => if j' = 2 then z else μ 69 j') _ (by rw [cel_obj ok69 (by decide)]; rfl), mset_row] at hP1
  exact k H1 locs1 ls hP1 hS1 hl
theorem gf_X3_22 (hX : OkX V E RX3 cc n lvl) (d : decode cc pc = .ok (.getfield 22, 3))  (k : G V E μ (pc + 3) L (vi (μ 69 3) :: st)) : G V E μ pc L (vr V 69 :: st) := by
  intro H locs ls hP hS hl
  exact va_get (D := V.1) (ci := 3) (v := vi (μ 69 3)) (C := RX3) (T := TX3) (N := 4) (fs := obF V 3 69 (μ 69)) hX.1 hX.2.1 hX.2.2.2.2.1 inX3 hX.2.2.2.1 hX.2.2.2.2.2.2.1 hP 69 (by rw [wld_at (okd_alen (k := 69) (by rw [ok69]; decide)).1, cel_obj ok69 (by decide)]) rfl 3 (by decide) (hX.2.2.2.2.1 _ tw_60) (fun _ h9 => h9) rfl d (k H locs ls hP hS hl)
theorem pf_X3_22 (hX : OkX V E RX3 cc n lvl) (d : decode cc pc = .ok (.putfield 22, 3))  {z : Int}  (k : G V E (mset μ 69 3 z) (pc + 3) L st) : G V E μ pc L (vi z :: vr V 69 :: st) := by
  intro H locs ls hP hS hl
  refine va_put (D := V.1) (ci := 3) (v := vi z) (ty := .int) (C := RX3) (T := TX3) (N := 4) (fs := obF V 3 69 (μ 69)) hX.1 hX.2.1 hX.2.2.2.2.1 inX3 tyX3 tyX3_ok nmX3 hX.2.2.2.1 hX.2.2.2.2.2.2.1 hP (wld_D hX.2.2.2.2.2.2.2.1 hX.2.2.2.2.2.2.2.2.1 μ) hS 69 (by rw [wld_at (okd_alen (k := 69) (by rw [ok69]; decide)).1, cel_obj ok69 (by decide)]) rfl 3 (by decide) (hX.2.2.2.2.1 _ tw_60) (fun _ h9 => h9) rfl (by decide +kernel) rfl rfl (Nat.le_of_ble_eq_true rfl) d (fun H1 locs1 hP1 _ hS1 => ?_)
  rw [wld_set (fun j' => if j' = 3 then z else μ 69 j') _ (by rw [cel_obj ok69 (by decide)]; rfl), mset_row] at hP1
  exact k H1 locs1 ls hP1 hS1 hl
theorem gf_X5_9 (hX : OkX V E RX5 cc n lvl) (d : decode cc pc = .ok (.getfield 9, 3)) {k0 : Nat} (hk : okd k0 = 5) (k : G V E μ (pc + 3) L (vr V (k0 + 5) :: st)) : G V E μ pc L (vr V k0 :: st) := by
  intro H locs ls hP hS hl
  exact va_get (D := V.1) (ci := 5) (v := vr V (k0 + 5)) (C := RX5) (T := TX5) (N := 2) (fs := obF V 5 k0 (μ k0)) hX.1 hX.2.1 hX.2.2.2.2.1 inX5 hX.2.2.2.1 hX.2.2.2.2.2.2.1 hP k0 (by rw [wld_at (okd_alen (k := k0) (by rw [hk]; decide)).1, cel_obj hk (by decide)]) rfl 0 (by decide) (hX.2.2.2.2.1 _ tw_82) (fun _ h9 => h9) rfl d (k H locs ls hP hS hl)
theorem gf_X5_15 (hX : OkX V E RX5 cc n lvl) (d : decode cc pc = .ok (.getfield 15, 3)) {k0 : Nat} (hk : okd k0 = 5) (k : G V E μ (pc + 3) L (vi (μ k0 1) :: st)) : G V E μ pc L (vr V k0 :: st) := by
  intro H locs ls hP hS hl
  exact va_get (D := V.1) (ci := 5) (v := vi (μ k0 1)) (C := RX5) (T := TX5) (N := 2) (fs := obF V 5 k0 (μ k0)) hX.1 hX.2.1 hX.2.2.2.2.1 inX5 hX.2.2.2.1 hX.2.2.2.2.2.2.1 hP k0 (by rw [wld_at (okd_alen (k := k0) (by rw [hk]; decide)).1, cel_obj hk (by decide)]) rfl 1 (by decide) (hX.2.2.2.2.1 _ tw_83) (fun _ h9 => h9) rfl d (k H locs ls hP hS hl)
theorem pf_X5_15 (hX : OkX V E RX5 cc n lvl) (d : decode cc pc = .ok (.putfield 15, 3)) {k0 : Nat} (hk : okd k0 = 5) {z : Int}  (k : G V E (mset μ k0 1 z) (pc + 3) L st) : G V E μ pc L (vi z :: vr V k0 :: st) := by
  intro H locs ls hP hS hl
  refine va_put (D := V.1) (ci := 5) (v := vi z) (ty := .int) (C := RX5) (T := TX5) (N := 2) (fs := obF V 5 k0 (μ k0)) hX.1 hX.2.1 hX.2.2.2.2.1 inX5 tyX5 tyX5_ok nmX5 hX.2.2.2.1 hX.2.2.2.2.2.2.1 hP (wld_D hX.2.2.2.2.2.2.2.1 hX.2.2.2.2.2.2.2.2.1 μ) hS k0 (by rw [wld_at (okd_alen (k := k0) (by rw [hk]; decide)).1, cel_obj hk (by decide)]) rfl 1 (by decide) (hX.2.2.2.2.1 _ tw_83) (fun _ h9 => h9) rfl (by decide +kernel) rfl rfl (Nat.le_of_ble_eq_true rfl) d (fun H1 locs1 hP1 _ hS1 => ?_)
  rw [wld_set (fun j' => if j' = 1 then z else μ k0 j') _ (by rw [cel_obj hk (by decide)]; rfl), mset_row] at hP1
  exact k H1 locs1 ls hP1 hS1 hl
theorem gf_X1_36 (hX : OkX V E RX1 cc n lvl) (d : decode cc pc = .ok (.getfield 36, 3)) {k0 : Nat} (hk : okd k0 = 5) (k : G V E μ (pc + 3) L (vi (μ k0 1) :: st)) : G V E μ pc L (vr V k0 :: st) := by
  intro H locs ls hP hS hl
  exact va_getN (D := V.1) (ci := 5) (v := vi (μ k0 1)) (C := RX5) (T := TX5) (N := 2) (fs := obF V 5 k0 (μ k0)) hX.1 hX.2.1 hX.2.2.2.2.1 inX5 hX.2.2.2.1 hX.2.2.2.2.2.2.1 hP k0 (by rw [wld_at (okd_alen (k := k0) (by rw [hk]; decide)).1, cel_obj hk (by decide)]) rfl 1 (by decide) (va_Nw.use rfl (hX.2.2.2.2.2.1 _ tn_84)) (fun _ h9 => h9) rfl d (k H locs ls hP hS hl)
theorem pf_X1_36 (hX : OkX V E RX1 cc n lvl) (d : decode cc pc = .ok (.putfield 36, 3)) {k0 : Nat} (hk : okd k0 = 5) {z : Int}  (k : G V E (mset μ k0 1 z) (pc + 3) L st) : G V E μ pc L (vi z :: vr V k0 :: st) := by
  intro H locs ls hP hS hl
  refine va_putN (D := V.1) (ci := 5) (v := vi z) (ty := .int) (C := RX5) (T := TX5) (N := 2) (fs := obF V 5 k0 (μ k0)) hX.1 hX.2.1 hX.2.2.2.2.1 inX5 tyX5 tyX5_ok nmX5 hX.2.2.2.1 hX.2.2.2.2.2.2.1 hP (wld_D hX.2.2.2.2.2.2.2.1 hX.2.2.2.2.2.2.2.2.1 μ) hS k0 (by rw [wld_at (okd_alen (k := k0) (by rw [hk]; decide)).1, cel_obj hk (by decide)]) rfl 1 (by decide) (va_Nw.use rfl (hX.2.2.2.2.2.1 _ tn_84)) (fun _ h9 => h9) rfl (by decide +kernel) rfl rfl (Nat.le_of_ble_eq_true rfl) d (fun H1 locs1 hP1 _ hS1 => ?_)
  rw [wld_set (fun j' => if j' = 1 then z else μ k0 j') _ (by rw [cel_obj hk (by decide)]; rfl), mset_row] at hP1
  exact k H1 locs1 ls hP1 hS1 hl
theorem gf_X6_168 (hX : OkX V E RX6 cc n lvl) (d : decode cc pc = .ok (.getfield 168, 3)) {k0 : Nat} (hk : okd k0 = 5) (k : G V E μ (pc + 3) L (vi (μ k0 1) :: st)) : G V E μ pc L (vr V k0 :: st) := by
  intro H locs ls hP hS hl
  exact va_getN (D := V.1) (ci := 5) (v := vi (μ k0 1)) (C := RX5) (T := TX5) (N := 2) (fs := obF V 5 k0 (μ k0)) hX.1 hX.2.1 hX.2.2.2.2.1 inX5 hX.2.2.2.1 hX.2.2.2.2.2.2.1 hP k0 (by rw [wld_at (okd_alen (k := k0) (by rw [hk]; decide)).1, cel_obj hk (by decide)]) rfl 1 (by decide) (va_Nw.use rfl (hX.2.2.2.2.2.1 _ tn_85)) (fun _ h9 => h9) rfl d (k H locs ls hP hS hl)
theorem pf_X6_168 (hX : OkX V E RX6 cc n lvl) (d : decode cc pc = .ok (.putfield 168, 3)) {k0 : Nat} (hk : okd k0 = 5) {z : Int}  (k : G V E (mset μ k0 1 z) (pc + 3) L st) : G V E μ pc L (vi z :: vr V k0 :: st) := by
  intro H locs ls hP hS hl
  refine va_putN (D := V.1) (ci := 5) (v := vi z) (ty := .int) (C := RX5) (T := TX5) (N := 2) (fs := obF V 5 k0 (μ k0)) hX.1 hX.2.1 hX.2.2.2.2.1 inX5 tyX5 tyX5_ok nmX5 hX.2.2.2.1 hX.2.2.2.2.2.2.1 hP (wld_D hX.2.2.2.2.2.2.2.1 hX.2.2.2.2.2.2.2.2.1 μ) hS k0 (by rw [wld_at (okd_alen (k := k0) (by rw [hk]; decide)).1, cel_obj hk (by decide)]) rfl 1 (by decide) (va_Nw.use rfl (hX.2.2.2.2.2.1 _ tn_85)) (fun _ h9 => h9) rfl (by decide +kernel) rfl rfl (Nat.le_of_ble_eq_true rfl) d (fun H1 locs1 hP1 _ hS1 => ?_)
  rw [wld_set (fun j' => if j' = 1 then z else μ k0 j') _ (by rw [cel_obj hk (by decide)]; rfl), mset_row] at hP1
  exact k H1 locs1 ls hP1 hS1 hl
theorem gf_X1_11 (hX : OkX V E RX1 cc n lvl) (d : decode cc pc = .ok (.getfield 11, 3))  (k : G V E μ (pc + 3) L (vr V 73 :: st)) : G V E μ pc L (vr V 72 :: st) := by
  intro H locs ls hP hS hl
  exact va_get (D := V.1) (ci := 1) (v := vr V 73) (C := RX1) (T := TX1) (N := 4) (fs := obF V 1 72 (μ 72)) hX.1 hX.2.1 hX.2.2.2.2.1 inX1 hX.2.2.2.1 hX.2.2.2.2.2.2.1 hP 72 (by rw [wld_at (okd_alen (k := 72) (by rw [ok72]; decide)).1, cel_obj ok72 (by decide)]) rfl 0 (by decide) (hX.2.2.2.2.1 _ tw_91) (fun _ h9 => h9) rfl d (k H locs ls hP hS hl)
theorem gf_X1_17 (hX : OkX V E RX1 cc n lvl) (d : decode cc pc = .ok (.getfield 17, 3))  (k : G V E μ (pc + 3) L (vr V 74 :: st)) : G V E μ pc L (vr V 72 :: st) := by
  intro H locs ls hP hS hl
  exact va_get (D := V.1) (ci := 1) (v := vr V 74) (C := RX1) (T := TX1) (N := 4) (fs := obF V 1 72 (μ 72)) hX.1 hX.2.1 hX.2.2.2.2.1 inX1 hX.2.2.2.1 hX.2.2.2.2.2.2.1 hP 72 (by rw [wld_at (okd_alen (k := 72) (by rw [ok72]; decide)).1, cel_obj ok72 (by decide)]) rfl 1 (by decide) (hX.2.2.2.2.1 _ tw_92) (fun _ h9 => h9) rfl d (k H locs ls hP hS hl)
theorem gf_X1_21 (hX : OkX V E RX1 cc n lvl) (d : decode cc pc = .ok (.getfield 21, 3))  (k : G V E μ (pc + 3) L (vr V 75 :: st)) : G V E μ pc L (vr V 72 :: st) := by
  intro H locs ls hP hS hl
  exact va_get (D := V.1) (ci := 1) (v := vr V 75) (C := RX1) (T := TX1) (N := 4) (fs := obF V 1 72 (μ 72)) hX.1 hX.2.1 hX.2.2.2.2.1 inX1 hX.2.2.2.1 hX.2.2.2.2.2.2.1 hP 72 (by rw [wld_at (okd_alen (k := 72) (by rw [ok72]; decide)).1, cel_obj ok72 (by decide)]) rfl 2 (by decide) (hX.2.2.2.2.1 _ tw_93) (fun _ h9 => h9) rfl d (k H locs ls hP hS hl)
theorem gf_X1_25 (hX : OkX V E RX1 cc n lvl) (d : decode cc pc = .ok (.getfield 25, 3))  (k : G V E μ (pc + 3) L (vi (μ 72 3) :: st)) : G V E μ pc L (vr V 72 :: st) := by
  intro H locs ls hP hS hl
  exact va_get (D := V.1) (ci := 1) (v := vi (μ 72 3)) (C := RX1) (T := TX1) (N := 4) (fs := obF V 1 72 (μ 72)) hX.1 hX.2.1 hX.2.2.2.2.1 inX1 hX.2.2.2.1 hX.2.2.2.2.2.2.1 hP 72 (by rw [wld_at (okd_alen (k := 72) (by rw [ok72]; decide)).1, cel_obj ok72 (by decide)]) rfl 3 (by decide) (hX.2.2.2.2.1 _ tw_94) (fun _ h9 => h9) rfl d (k H locs ls hP hS hl)
theorem pf_X1_25 (hX : OkX V E RX1 cc n lvl) (d : decode cc pc = .ok (.putfield 25, 3))  {z : Int}  (k : G V E (mset μ 72 3 z) (pc + 3) L st) : G V E μ pc L (vi z :: vr V 72 :: st) := by
  intro H locs ls hP hS hl
  refine va_put (D := V.1) (ci := 1) (v := vi z) (ty := .int) (C := RX1) (T := TX1) (N := 4) (fs := obF V 1 72 (μ 72)) hX.1 hX.2.1 hX.2.2.2.2.1 inX1 tyX1 tyX1_ok nmX1 hX.2.2.2.1 hX.2.2.2.2.2.2.1 hP (wld_D hX.2.2.2.2.2.2.2.1 hX.2.2.2.2.2.2.2.2.1 μ) hS 72 (by rw [wld_at (okd_alen (k := 72) (by rw [ok72]; decide)).1, cel_obj ok72 (by decide)]) rfl 3 (by decide) (hX.2.2.2.2.1 _ tw_94) (fun _ h9 => h9) rfl (by decide +kernel) rfl rfl (Nat.le_of_ble_eq_true rfl) d (fun H1 locs1 hP1 _ hS1 => ?_)
  rw [wld_set (fun j' => if j' = 3 then z else μ 72 j') _ (by rw [cel_obj ok72 (by decide)]; rfl), mset_row] at hP1
  exact k H1 locs1 ls hP1 hS1 hl
theorem gf_X4_18 (hX : OkX V E RX4 cc n lvl) (d : decode cc pc = .ok (.getfield 18, 3)) {k0 : Nat} (hk : okd k0 = 4) (k : G V E μ (pc + 3) L (vi (μ k0 0) :: st)) : G V E μ pc L (vr V k0 :: st) := by
  intro H locs ls hP hS hl
  exact va_get (D := V.1) (ci := 4) (v := vi (μ k0 0)) (C := RX4) (T := TX4) (N := 8) (fs := obF V 4 k0 (μ k0)) hX.1 hX.2.1 hX.2.2.2.2.1 inX4 hX.2.2.2.1 hX.2.2.2.2.2.2.1 hP k0 (by rw [wld_at (okd_alen (k := k0) (by rw [hk]; decide)).1, cel_obj hk (by decide)]) rfl 0 (by decide) (hX.2.2.2.2.1 _ tw_109) (fun _ h9 => h9) rfl d (k H locs ls hP hS hl)
theorem pf_X4_18 (hX : OkX V E RX4 cc n lvl) (d : decode cc pc = .ok (.putfield 18, 3)) {k0 : Nat} (hk : okd k0 = 4) {z : Int}  (k : G V E (mset μ k0 0 z) (pc + 3) L st) : G V E μ pc L (vi z :: vr V k0 :: st) := by
  intro H locs ls hP hS hl
  refine va_put (D := V.1) (ci := 4) (v := vi z) (ty := .int) (C := RX4) (T := TX4) (N := 8) (fs := obF V 4 k0 (μ k0)) hX.1 hX.2.1 hX.2.2.2.2.1 inX4 tyX4 tyX4_ok nmX4 hX.2.2.2.1 hX.2.2.2.2.2.2.1 hP (wld_D hX.2.2.2.2.2.2.2.1 hX.2.2.2.2.2.2.2.2.1 μ) hS k0 (by rw [wld_at (okd_alen (k := k0) (by rw [hk]; decide)).1, cel_obj hk (by decide)]) rfl 0 (by decide) (hX.2.2.2.2.1 _ tw_109) (fun _ h9 => h9) rfl (by decide +kernel) rfl rfl (Nat.le_of_ble_eq_true rfl) d (fun H1 locs1 hP1 _ hS1 => ?_)
  rw [wld_set (fun j' => if j' = 0 then z else μ k0 j') _ (by rw [cel_obj hk (by decide)]; rfl), mset_row] at hP1
  exact k H1 locs1 ls hP1 hS1 hl
theorem gf_X6_108 (hX : OkX V E RX6 cc n lvl) (d : decode cc pc = .ok (.getfield 108, 3)) {k0 : Nat} (hk : okd k0 = 4) (k : G V E μ (pc + 3) L (vi (μ k0 0) :: st)) : G V E μ pc L (vr V k0 :: st) := by
  intro H locs ls hP hS hl
  exact va_getN (D := V.1) (ci := 4) (v := vi (μ k0 0)) (C := RX4) (T := TX4) (N := 8) (fs := obF V 4 k0 (μ k0)) hX.1 hX.2.1 hX.2.2.2.2.1 inX4 hX.2.2.2.1 hX.2.2.2.2.2.2.1 hP k0 (by rw [wld_at (okd_alen (k := k0) (by rw [hk]; decide)).1, cel_obj hk (by decide)]) rfl 0 (by decide) (va_Nw.use rfl (hX.2.2.2.2.2.1 _ tn_110)) (fun _ h9 => h9) rfl d (k H locs ls hP hS hl)
theorem pf_X6_108 (hX : OkX V E RX6 cc n lvl) (d : decode cc pc = .ok (.putfield 108, 3)) {k0 : Nat} (hk : okd k0 = 4) {z : Int}  (k : G V E (mset μ k0 0 z) (pc + 3) L st) : G V E μ pc L (vi z :: vr V k0 :: st) := by
  intro H locs ls hP hS hl
  refine va_putN (D := V.1) (ci := 4) (v := vi z) (ty := .int) (C := RX4) (T := TX4) (N := 8) (fs := obF V 4 k0 (μ k0)) hX.1 hX.2.1 hX.2.2.2.2.1 inX4 tyX4 tyX4_ok nmX4 hX.2.2.2.1 hX.2.2.2.2.2.2.1 hP (wld_D hX.2.2.2.2.2.2.2.1 hX.2.2.2.2.2.2.2.2.1 μ) hS k0 (by rw [wld_at (okd_alen (k := k0) (by rw [hk]; decide)).1, cel_obj hk (by decide)]) rfl 0 (by decide) (va_Nw.use rfl (hX.2.2.2.2.2.1 _ tn_110)) (fun _ h9 => h9) rfl (by decide +kernel) rfl rfl (Nat.le_of_ble_eq_true rfl) d (fun H1 locs1 hP1 _ hS1 => ?_)
  rw [wld_set (fun j' => if j' = 0 then z else μ k0 j') _ (by rw [cel_obj hk (by decide)]; rfl), mset_row] at hP1
  exact k H1 locs1 ls hP1 hS1 hl
theorem gf_X4_21 (hX : OkX V E RX4 cc n lvl) (d : decode cc pc = .ok (.getfield 21, 3)) {k0 : Nat} (hk : okd k0 = 4) (k : G V E μ (pc + 3) L (vi (μ k0 1) :: st)) : G V E μ pc L (vr V k0 :: st) := by
  intro H locs ls hP hS hl
  exact va_get (D := V.1) (ci := 4) (v := vi (μ k0 1)) (C := RX4) (T := TX4) (N := 8) (fs := obF V 4 k0 (μ k0)) hX.1 hX.2.1 hX.2.2.2.2.1 inX4 hX.2.2.2.1 hX.2.2.2.2.2.2.1 hP k0 (by rw [wld_at (okd_alen (k := k0) (by rw [hk]; decide)).1, cel_obj hk (by decide)]) rfl 1 (by decide) (hX.2.2.2.2.1 _ tw_111) (fun _ h9 => h9) rfl d (k H locs ls hP hS hl)
theorem pf_X4_21 (hX : OkX V E RX4 cc n lvl) (d : decode cc pc = .ok (.putfield 21, 3)) {k0 : Nat} (hk : okd k0 = 4) {z : Int}  (k : G V E (mset μ k0 1 z) (pc + 3) L st) : G V E μ pc L (vi z :: vr V k0 :: st) := by
  intro H locs ls hP hS hl
  refine va_put (D := V.1) (ci := 4) (v := vi z) (ty := .int) (C := RX4) (T := TX4) (N := 8) (fs := obF V 4 k0 (μ k0)) hX.1 hX.2.1 hX.2.2.2.2.1 inX4 tyX4 tyX4_ok nmX4 hX.2.2.2.1 hX.2.2.2.2.2.2.1 hP (wld_D hX.2.2.2.2.2.2.2.1 hX.2.2.2.2.2.2.2.2.1 μ) hS k0 (by rw [wld_at (okd_alen (k := k0) (by rw [hk]; decide)).1, cel_obj hk (by decide)]) rfl 1 (by decide) (hX.2.2.2.2.1 _ tw_111) (fun _ h9 => h9) rfl (by decide +kernel) rfl rfl (Nat.le_of_ble_eq_true rfl) d (fun H1 locs1 hP1 _ hS1 => ?_)
  rw [wld_set (fun j' => if j' = 1 then z else μ k0 j') _ (by rw [cel_obj hk (by decide)]; rfl), mset_row] at hP1
  exact k H1 locs1 ls hP1 hS1 hl
theorem gf_X6_230 (hX : OkX V E RX6 cc n lvl) (d : decode cc pc = .ok (.getfield 230, 3)) {k0 : Nat} (hk : okd k0 = 4) (k : G V E μ (pc + 3) L (vi (μ k0 1) :: st)) : G V E μ pc L (vr V k0 :: st) := by
  intro H locs ls hP hS hl
  exact va_getN (D := V.1) (ci := 4) (v := vi (μ k0 1)) (C := RX4) (T := TX4) (N := 8) (fs := obF V 4 k0 (μ k0)) hX.1 hX.2.1 hX.2.2.2.2.1 inX4 hX.2.2.2.1 hX.2.2.2.2.2.2.1 hP k0 (by rw [wld_at (okd_alen (k := k0) (by rw [hk]; decide)).1, cel_obj hk (by decide)]) rfl 1 (by decide) (va_Nw.use rfl (hX.2.2.2.2.2.1 _ tn_112)) (fun _ h9 => h9) rfl d (k H locs ls hP hS hl)
theorem pf_X6_230 (hX : OkX V E RX6 cc n lvl) (d : decode cc pc = .ok (.putfield 230, 3)) {k0 : Nat} (hk : okd k0 = 4) {z : Int}  (k : G V E (mset μ k0 1 z) (pc + 3) L st) : G V E μ pc L (vi z :: vr V k0 :: st) := by
  intro H locs ls hP hS hl
  refine va_putN (D := V.1) (ci := 4) (v := vi z) (ty := .int) (C := RX4) (T := TX4) (N := 8) (fs := obF V 4 k0 (μ k0)) hX.1 hX.2.1 hX.2.2.2.2.1 inX4 tyX4 tyX4_ok nmX4 hX.2.2.2.1 hX.2.2.2.2.2.2.1 hP (wld_D hX.2.2.2.2.2.2.2.1 hX.2.2.2.2.2.2.2.2.1 μ) hS k0 (by rw [wld_at (okd_alen (k := k0) (by rw [hk]; decide)).1, cel_obj hk (by decide)]) rfl 1 (by decide) (va_Nw.use rfl (hX.2.2.2.2.2.1 _ tn_112)) (fun _ h9 => h9) rfl (by decide +kernel) rfl rfl (Nat.le_of_ble_eq_true rfl) d (fun H1 locs1 hP1 _ hS1 => ?_)
  rw [wld_set (fun j' => if j' = 1 then z else μ k0 j') _ (by rw [cel_obj hk (by decide)]; rfl), mset_row] at hP1
  exact k H1 locs1 ls hP1 hS1 hl
theorem gf_X4_24 (hX : OkX V E RX4 cc n lvl) (d : decode cc pc = .ok (.getfield 24, 3)) {k0 : Nat} (hk : okd k0 = 4) (k : G V E μ (pc + 3) L (vi (μ k0 2) :: st)) : G V E μ pc L (vr V k0 :: st) := by
  intro H locs ls hP hS hl
  exact va_get (D := V.1) (ci := 4) (v := vi (μ k0 2)) (C := RX4) (T := TX4) (N := 8) (fs := obF V 4 k0 (μ k0)) hX.1 hX.2.1 hX.2.2.2.2.1 inX4 hX.2.2.2.1 hX.2.2.2.2.2.2.1 hP k0 (by rw [wld_at (okd_alen (k := k0) (by rw [hk]; decide)).1, cel_obj hk (by decide)]) rfl 2 (by decide) (hX.2.2.2.2.1 _ tw_113) (fun _ h9 => h9) rfl d (k H locs ls hP hS hl)
theorem pf_X4_24 (hX : OkX V E RX4 cc n lvl) (d : decode cc pc = .ok (.putfield 24, 3)) {k0 : Nat} (hk : okd k0 = 4) {z : Int}  (k : G V E (mset μ k0 2 z) (pc + 3) L st) : G V E μ pc L (vi z :: vr V k0 :: st) := by
  intro H locs ls hP hS hl
  refine va_put (D := V.1) (ci := 4) (v := vi z) (ty := .int) (C := RX4) (T := TX4) (N := 8) (fs := obF V 4 k0 (μ k0)) hX.1 hX.2.1 hX.2.2.2.2.1 inX4 tyX4 tyX4_ok nmX4 hX.2.2.2.1 hX.2.2.2.2.2.2.1 hP (wld_D hX.2.2.2.2.2.2.2.1 hX.2.2.2.2.2.2.2.2.1 μ) hS k0 (by rw [wld_at (okd_alen (k := k0) (by rw [hk]; decide)).1, cel_obj hk (by decide)]) rfl 2 (by decide) (hX.2.2.2.2.1 _ tw_113) (fun _ h9 => h9) rfl (by decide +kernel) rfl rfl (Nat.le_of_ble_eq_true rfl) d (fun H1 locs1 hP1 _ hS1 => ?_)
  rw [wld_set (fun j' => if j' = 2 then z else μ k0 j') _ (by rw [cel_obj hk (by decide)]; rfl), mset_row] at hP1
  exact k H1 locs1 ls hP1 hS1 hl
theorem gf_X6_204 (hX : OkX V E RX6 cc n lvl) (d : decode cc pc = .ok (.getfield 204, 3)) {k0 : Nat} (hk : okd k0 = 4) (k : G V E μ (pc + 3) L (vi (μ k0 2) :: st)) : G V E μ pc L (vr V k0 :: st) := by
  intro H locs ls hP hS hl
  exact va_getN (D := V.1) (ci := 4) (v := vi (μ k0 2)) (C := RX4) (T := TX4) (N := 8) (fs := obF V 4 k0 (μ k0)) hX.1 hX.2.1 hX.2.2.2.2.1 inX4 hX.2.2.2.1 hX.2.2.2.2.2.2.1 hP k0 (by rw [wld_at (okd_alen (k := k0) (by rw [hk]; decide)).1, cel_obj hk (by decide)]) rfl 2 (by decide) (va_Nw.use rfl (hX.2.2.2.2.2.1 _ tn_114)) (fun _ h9 => h9) rfl d (k H locs ls hP hS hl)
theorem pf_X6_204 (hX : OkX V E RX6 cc n lvl) (d : decode cc pc = .ok (.putfield 204, 3)) {k0 : Nat} (hk : okd k0 = 4) {z : Int}  (k : G V E (mset μ k0 2 z) (pc + 3) L st) : G V E μ pc L (vi z :: vr V k0 :: st) := by
  intro H locs ls hP hS hl
  refine va_putN (D := V.1) (ci := 4) (v := vi z) (ty := .int) (C := RX4) (T := TX4) (N := 8) (fs := obF V 4 k0 (μ k0)) hX.1 hX.2.1 hX.2.2.2.2.1 inX4 tyX4 tyX4_ok nmX4 hX.2.2.2.1 hX.2.2.2.2.2.2.1 hP (wld_D hX.2.2.2.2.2.2.2.1 hX.2.2.2.2.2.2.2.2.1 μ) hS k0 (by rw [wld_at (okd_alen (k := k0) (by rw [hk]; decide)).1, cel_obj hk (by decide)]) rfl 2 (by decide) (va_Nw.use rfl (hX.2.2.2.2.2.1 _ tn_114)) (fun _ h9 => h9) rfl (by decide +kernel) rfl rfl (Nat.le_of_ble_eq_true rfl) d (fun H1 locs1 hP1 _ hS1 => ?_)
  rw [wld_set (fun j' => if j' = 2 then z else μ k0 j') _ (by rw [cel_obj hk (by decide)]; rfl), mset_row] at hP1
  exact k H1 locs1 ls hP1 hS1 hl
theorem gf_X6_70 (hX : OkX V E RX6 cc n lvl) (d : decode cc pc = .ok (.getfield 70, 3)) {k0 : Nat} (hk : okd k0 = 4) (k : G V E μ (pc + 3) L (vi (μ k0 3) :: st)) : G V E μ pc L (vr V k0 :: st) := by
  intro H locs ls hP hS hl
  exact va_getN (D := V.1) (ci := 4) (v := vi (μ k0 3)) (C := RX4) (T := TX4) (N := 8) (fs := obF V 4 k0 (μ k0)) hX.1 hX.2.1 hX.2.2.2.2.1 inX4 hX.2.2.2.1 hX.2.2.2.2.2.2.1 hP k0 (by rw [wld_at (okd_alen (k := k0) (by rw [hk]; decide)).1, cel_obj hk (by decide)]) rfl 3 (by decide) (va_Nw.use rfl (hX.2.2.2.2.2.1 _ tn_115)) (fun _ h9 => h9) rfl d (k H locs ls hP hS hl)
theorem pf_X6_70 (hX : OkX V E RX6 cc n lvl) (d : decode cc pc = .ok (.putfield 70, 3)) {k0 : Nat} (hk : okd k0 = 4) {z : Int}  (k : G V E (mset μ k0 3 z) (pc + 3) L st) : G V E μ pc L (vi z :: vr V k0 :: st) := by
  intro H locs ls hP hS hl
  refine va_putN (D := V.1) (ci := 4) (v := vi z) (ty := .int) (C := RX4) (T := TX4) (N := 8) (fs := obF V 4 k0 (μ k0)) hX.1 hX.2.1 hX.2.2.2.2.1 inX4 tyX4 tyX4_ok nmX4 hX.2.2.2.1 hX.2.2.2.2.2.2.1 hP (wld_D hX.2.2.2.2.2.2.2.1 hX.2.2.2.2.2.2.2.2.1 μ) hS k0 (by rw [wld_at (okd_alen (k := k0) (by rw [hk]; decide)).1, cel_obj hk (by decide)]) rfl 3 (by decide) (va_Nw.use rfl (hX.2.2.2.2.2.1 _ tn_115)) (fun _ h9 => h9) rfl (by decide +kernel) rfl rfl (Nat.le_of_ble_eq_true rfl) d (fun H1 locs1 hP1 _ hS1 => ?_)
  rw [wld_set (fun j' => if j' = 3 then z else μ k0 j') _ (by rw [cel_obj hk (by decide)]; rfl), mset_row] at hP1
  exact k H1 locs1 ls hP1 hS1 hl
theorem gf_X4_9 (hX : OkX V E RX4 cc n lvl) (d : decode cc pc = .ok (.getfield 9, 3)) {k0 : Nat} (hk : okd k0 = 4) (k : G V E μ (pc + 3) L (vi (μ k0 4) :: st)) : G V E μ pc L (vr V k0 :: st) := by
  intro H locs ls hP hS hl
  exact va_get (D := V.1) (ci := 4) (v := vi (μ k0 4)) (C := RX4) (T := TX4) (N := 8) (fs := obF V 4 k0 (μ k0)) hX.1 hX.2.1 hX.2.2.2.2.1 inX4 hX.2.2.2.1 hX.2.2.2.2.2.2.1 hP k0 (by rw [wld_at (okd_alen (k := k0) (by rw [hk]; decide)).1, cel_obj hk (by decide)]) rfl 4 (by decide) (hX.2.2.2.2.1 _ tw_116) (fun _ h9 => h9) rfl d (k H locs ls hP hS hl)
theorem pf_X4_9 (hX : OkX V E RX4 cc n lvl) (d : decode cc pc = .ok (.putfield 9, 3)) {k0 : Nat} (hk : okd k0 = 4) {z : Int}  (k : G V E (mset μ k0 4 z) (pc + 3) L st) : G V E μ pc L (vi z :: vr V k0 :: st) := by
  intro H locs ls hP hS hl
  refine va_put (D := V.1) (ci := 4) (v := vi z) (ty := .int) (C := RX4) (T := TX4) (N := 8) (fs := obF V 4 k0 (μ k0)) hX.1 hX.2.1 hX.2.2.2.2.1 inX4 tyX4 tyX4_ok nmX4 hX.2.2.2.1 hX.2.2.2.2.2.2.1 hP (wld_D hX.2.2.2.2.2.2.2.1 hX.2.2.2.2.2.2.2.2.1 μ) hS k0 (by rw [wld_at (okd_alen (k := k0) (by rw [hk]; decide)).1, cel_obj hk (by decide)]) rfl 4 (by decide) (hX.2.2.2.2.1 _ tw_116) (fun _ h9 => h9) rfl (by decide +kernel) rfl rfl (Nat.le_of_ble_eq_true rfl) d (fun H1 locs1 hP1 _ hS1 => ?_)
  rw [wld_set (fun j' => if j' = 4 then z else μ k0 j') _ (by rw [cel_obj hk (by decide)]; rfl), mset_row] at hP1
  exact k H1 locs1 ls hP1 hS1 hl
theorem gf_X6_133 (hX : OkX V E RX6 cc n lvl) (d : decode cc pc = .ok (.getfield 133, 3)) {k0 : Nat} (hk : okd k0 = 4) (k : G V E μ (pc + 3) L (vi (μ k0 4) :: st)) : G V E μ pc L (vr V k0 :: st) := by
  intro H locs ls hP hS hl
  exact va_getN (D := V.1) (ci := 4) (v := vi (μ k0 4)) (C := RX4) (T := TX4) (N := 8) (fs := obF V 4 k0 (μ k0)) hX.1 hX.2.1 hX.2.2.2.2.1 inX4 hX.2.2.2.1 hX.2.2.2.2.2.2.1 hP k0 (by rw [wld_at (okd_alen (k := k0) (by rw [hk]; decide)).1, cel_obj hk (by decide)]) rfl 4 (by decide) (va_Nw.use rfl (hX.2.2.2.2.2.1 _ tn_117)) (fun _ h9 => h9) rfl d (k H locs ls hP hS hl)
theorem pf_X6_133 (hX : OkX V E RX6 cc n lvl) (d : decode cc pc = .ok (.putfield 133, 3)) {k0 : Nat} (hk : okd k0 = 4) {z : Int}  (k : G V E (mset μ k0 4 z) (pc + 3) L st) : G V E μ pc L (vi z :: vr V k0 :: st) := by
  intro H locs ls hP hS hl
  refine va_putN (D := V.1) (ci := 4) (v := vi z) (ty := .int) (C := RX4) (T := TX4) (N := 8) (fs := obF V 4 k0 (μ k0)) hX.1 hX.2.1 hX.2.2.2.2.1 inX4 tyX4 tyX4_ok nmX4 hX.2.2.2.1 hX.2.2.2.2.2.2.1 hP (wld_D hX.2.2.2.2.2.2.2.1 hX.2.2.2.2.2.2.2.2.1 μ) hS k0 (by rw [wld_at (okd_alen (k := k0) (by rw [hk]; decide)).1, cel_obj hk (by decide)]) rfl 4 (by decide) (va_Nw.use rfl (hX.2.2.2.2.2.1 _ tn_117)) (fun _ h9 => h9) rfl (by decide +kernel) rfl rfl (Nat.le_of_ble_eq_true rfl) d (fun H1 locs1 hP1 _ hS1 => ?_)
  rw [wld_set (fun j' => if j' = 4 then z else μ k0 j') _ (by rw [cel_obj hk (by decide)]; rfl), mset_row] at hP1
  exact k H1 locs1 ls hP1 hS1 hl
theorem gf_X4_15 (hX : OkX V E RX4 cc n lvl) (d : decode cc pc = .ok (.getfield 15, 3)) {k0 : Nat} (hk : okd k0 = 4) (k : G V E μ (pc + 3) L (vi (μ k0 5) :: st)) : G V E μ pc L (vr V k0 :: st) := by
  intro H locs ls hP hS hl
  exact va_get (D := V.1) (ci := 4) (v := vi (μ k0 5)) (C := RX4) (T := TX4) (N := 8) (fs := obF V 4 k0 (μ k0)) hX.1 hX.2.1 hX.2.2.2.2.1 inX4 hX.2.2.2.1 hX.2.2.2.2.2.2.1 hP k0 (by rw [wld_at (okd_alen (k := k0) (by rw [hk]; decide)).1, cel_obj hk (by decide)]) rfl 5 (by decide) (hX.2.2.2.2.1 _ tw_118) (fun _ h9 => h9) rfl d (k H locs ls hP hS hl)
theorem pf_X4_15 (hX : OkX V E RX4 cc n lvl) (d : decode cc pc = .ok (.putfield 15, 3)) {k0 : Nat} (hk : okd k0 = 4) {z : Int}  (k : G V E (mset μ k0 5 z) (pc + 3) L st) : G V E μ pc L (vi z :: vr V k0 :: st) := by
  intro H locs ls hP hS hl
  refine va_put (D := V.1) (ci := 4) (v := vi z) (ty := .int) (C := RX4) (T := TX4) (N := 8) (fs := obF V 4 k0 (μ k0)) hX.1 hX.2.1 hX.2.2.2.2.1 inX4 tyX4 tyX4_ok nmX4 hX.2.2.2.1 hX.2.2.2.2.2.2.1 hP (wld_D hX.2.2.2.2.2.2.2.1 hX.2.2.2.2.2.2.2.2.1 μ) hS k0 (by rw [wld_at (okd_alen (k := k0) (by rw [hk]; decide)).1, cel_obj hk (by decide)]) rfl 5 (by decide) (hX.2.2.2.2.1 _ tw_118) (fun _ h9 => h9) rfl (by decide +kernel) rfl rfl (Nat.le_of_ble_eq_true rfl) d (fun H1 locs1 hP1 _ hS1 => ?_)
  rw [wld_set (fun j' => if j' = 5 then z else μ k0 j') _ (by rw [cel_obj hk (by decide)]; rfl), mset_row] at hP1
  exact k H1 locs1 ls hP1 hS1 hl
theorem gf_X6_136 (hX : OkX V E RX6 cc n lvl) (d : decode cc pc = .ok (.getfield 136, 3)) {k0 : Nat} (hk : okd k0 = 4) (k : G V E μ (pc + 3) L (vi (μ k0 5) :: st)) : G V E μ pc L (vr V k0 :: st) := by
  intro H locs ls hP hS hl
  exact va_getN (D := V.1) (ci := 4) (v := vi (μ k0 5)) (C := RX4) (T := TX4) (N := 8) (fs := obF V 4 k0 (μ k0)) hX.1 hX.2.1 hX.2.2.2.2.1 inX4 hX.2.2.2.1 hX.2.2.2.2.2.2.1 hP k0 (by rw [wld_at (okd_alen (k := k0) (by rw [hk]; decide)).1, cel_obj hk (by decide)]) rfl 5 (by decide) (va_Nw.use rfl (hX.2.2.2.2.2.1 _ tn_119)) (fun _ h9 => h9) rfl d (k H locs ls hP hS hl)
theorem pf_X6_136 (hX : OkX V E RX6 cc n lvl) (d : decode cc pc = .ok (.putfield 136, 3)) {k0 : Nat} (hk : okd k0 = 4) {z : Int}  (k : G V E (mset μ k0 5 z) (pc + 3) L st) : G V E μ pc L (vi z :: vr V k0 :: st) := by
  intro H locs ls hP hS hl
  refine va_putN (D := V.1) (ci := 4) (v := vi z) (ty := .int) (C := RX4) (T := TX4) (N := 8) (fs := obF V 4 k0 (μ k0)) hX.1 hX.2.1 hX.2.2.2.2.1 inX4 tyX4 tyX4_ok nmX4 hX.2.2.2.1 hX.2.2.2.2.2.2.1 hP (wld_D hX.2.2.2.2.2.2.2.1 hX.2.2.2.2.2.2.2.2.1 μ) hS k0 (by rw [wld_at (okd_alen (k := k0) (by rw [hk]; decide)).1, cel_obj hk (by decide)]) rfl 5 (by decide) (va_Nw.use rfl (hX.2.2.2.2.2.1 _ tn_119)) (fun _ h9 => h9) rfl (by decide +kernel) rfl rfl (Nat.le_of_ble_eq_true rfl) d (fun H1 locs1 hP1 _ hS1 => ?_)
  rw [wld_set (fun j' => if j' = 5 then z else μ k0 j') _ (by rw [cel_obj hk (by decide)]; rfl), mset_row] at hP1
  exact k H1 locs1 ls hP1 hS1 hl
theorem gf_X6_143 (hX : OkX V E RX6 cc n lvl) (d : decode cc pc = .ok (.getfield 143, 3)) {k0 : Nat} (hk : okd k0 = 4) (k : G V E μ (pc + 3) L (vi (μ k0 6) :: st)) : G V E μ pc L (vr V k0 :: st) := by
  intro H locs ls hP hS hl
  exact va_getN (D := V.1) (ci := 4) (v := vi (μ k0 6)) (C := RX4) (T := TX4) (N := 8) (fs := obF V 4 k0 (μ k0)) hX.1 hX.2.1 hX.2.2.2.2.1 inX4 hX.2.2.2.1 hX.2.2.2.2.2.2.1 hP k0 (by rw [wld_at (okd_alen (k := k0) (by rw [hk]; decide)).1, cel_obj hk (by decide)]) rfl 6 (by decide) (va_Nw.use rfl (hX.2.2.2.2.2.1 _ tn_120)) (fun _ h9 => h9) rfl d (k H locs ls hP hS hl)
theorem pf_X6_143 (hX : OkX V E RX6 cc n lvl) (d : decode cc pc = .ok (.putfield 143, 3)) {k0 : Nat} (hk : okd k0 = 4) {z : Int}  (k : G V E (mset μ k0 6 z) (pc + 3) L st) : G V E μ pc L (vi z :: vr V k0 :: st) := by
  intro H locs ls hP hS hl
  refine va_putN (D := V.1) (ci := 4) (v := vi z) (ty := .int) (C := RX4) (T := TX4) (N := 8) (fs := obF V 4 k0 (μ k0)) hX.1 hX.2.1 hX.2.2.2.2.1 inX4 tyX4 tyX4_ok nmX4 hX.2.2.2.1 hX.2.2.2.2.2.2.1 hP (wld_D hX.2.2.2.2.2.2.2.1 hX.2.2.2.2.2.2.2.2.1 μ) hS k0 (by rw [wld_at (okd_alen (k := k0) (by rw [hk]; decide)).1, cel_obj hk (by decide)]) rfl 6 (by decide) (va_Nw.use rfl (hX.2.2.2.2.2.1 _ tn_120)) (fun _ h9 => h9) rfl (by decide +kernel) rfl rfl (Nat.le_of_ble_eq_true rfl) d (fun H1 locs1 hP1 _ hS1 => ?_)
  rw [wld_set (fun j' => if j' = 6 then z else μ k0 j') _ (by rw [cel_obj hk (by decide)]; rfl), mset_row] at hP1
  exact k H1 locs1 ls hP1 hS1 hl
theorem gf_X4_31 (hX : OkX V E RX4 cc n lvl) (d : decode cc pc = .ok (.getfield 31, 3)) {k0 : Nat} (hk : okd k0 = 4) (k : G V E μ (pc + 3) L (vi (μ k0 7) :: st)) : G V E μ pc L (vr V k0 :: st) := by
  intro H locs ls hP hS hl
  exact va_get (D := V.1) (ci := 4) (v := vi (μ k0 7)) (C := RX4) (T := TX4) (N := 8) (fs := obF V 4 k0 (μ k0)) hX.1 hX.2.1 hX.2.2.2.2.1 inX4 hX.2.2.2.1 hX.2.2.2.2.2.2.1 hP k0 (by rw [wld_at (okd_alen (k := k0) (by rw [hk]; decide)).1, cel_obj hk (by decide)]) rfl 7 (by decide) (hX.2.2.2.2.1 _ tw_121) (fun _ h9 => h9) rfl d (k H locs ls hP hS hl)
theorem pf_X4_31 (hX : OkX V E RX4 cc n lvl) (d : decode cc pc = .ok (.putfield 31, 3)) {k0 : Nat} (hk : okd k0 = 4) {z : Int} (hz : z = 0 ∨ z = 1) (k : G V E (mset μ k0 7 z) (pc + 3) L st) : G V E μ pc L (vi z :: vr V k0 :: st) := by
  intro H locs ls hP hS hl
  refine va_put (D := V.1) (ci := 4) (v := vi z) (ty := .boolean) (C := RX4) (T := TX4) (N := 8) (fs := obF V 4 k0 (μ k0)) hX.1 hX.2.1 hX.2.2.2.2.1 inX4 tyX4 tyX4_ok nmX4 hX.2.2.2.1 hX.2.2.2.2.2.2.1 hP (wld_D hX.2.2.2.2.2.2.2.1 hX.2.2.2.2.2.2.2.2.1 μ) hS k0 (by rw [wld_at (okd_alen (k := k0) (by rw [hk]; decide)).1, cel_obj hk (by decide)]) rfl 7 (by decide) (hX.2.2.2.2.1 _ tw_121) (fun _ h9 => h9) rfl (by decide +kernel) (by rcases hz with rfl | rfl <;> rfl) (by rcases hz with rfl | rfl <;> rfl) (Nat.le_of_ble_eq_true rfl) d (fun H1 locs1 hP1 _ hS1 => ?_)
  rw [wld_set (fun j' => if j' = 7 then z else μ k0 j') _ (by rw [cel_obj hk (by decide)]; rfl), mset_row] at hP1
  exact k H1 locs1 ls hP1 hS1 hl
theorem gf_X6_146 (hX : OkX V E RX6 cc n lvl) (d : decode cc pc = .ok (.getfield 146, 3)) {k0 : Nat} (hk : okd k0 = 4) (k : G V E μ (pc + 3) L (vi (μ k0 7) :: st)) : G V E μ pc L (vr V k0 :: st) := by
  intro H locs ls hP hS hl
  exact va_getN (D := V.1) (ci := 4) (v := vi (μ k0 7)) (C := RX4) (T := TX4) (N := 8) (fs := obF V 4 k0 (μ k0)) hX.1 hX.2.1 hX.2.2.2.2.1 inX4 hX.2.2.2.1 hX.2.2.2.2.2.2.1 hP k0 (by rw [wld_at (okd_alen (k := k0) (by rw [hk]; decide)).1, cel_obj hk (by decide)]) rfl 7 (by decide) (va_Nw.use rfl (hX.2.2.2.2.2.1 _ tn_122)) (fun _ h9 => h9) rfl d (k H locs ls hP hS hl)
theorem pf_X6_146 (hX : OkX V E RX6 cc n lvl) (d : decode cc pc = .ok (.putfield 146, 3)) {k0 : Nat} (hk : okd k0 = 4) {z : Int} (hz : z = 0 ∨ z = 1) (k : G V E (mset μ k0 7 z) (pc + 3) L st) : G V E μ pc L (vi z :: vr V k0 :: st) := by
  intro H locs ls hP hS hl
  refine va_putN (D := V.1) (ci := 4) (v := vi z) (ty := .boolean) (C := RX4) (T := TX4) (N := 8) (fs := obF V 4 k0 (μ k0)) hX.1 hX.2.1 hX.2.2.2.2.1 inX4 tyX4 tyX4_ok nmX4 hX.2.2.2.1 hX.2.2.2.2.2.2.1 hP (wld_D hX.2.2.2.2.2.2.2.1 hX.2.2.2.2.2.2.2.2.1 μ) hS k0 (by rw [wld_at (okd_alen (k := k0) (by rw [hk]; decide)).1, cel_obj hk (by decide)]) rfl 7 (by decide) (va_Nw.use rfl (hX.2.2.2.2.2.1 _ tn_122)) (fun _ h9 => h9) rfl (by decide +kernel) (by rcases hz with rfl | rfl <;> rfl) (by rcases hz with rfl | rfl <;> rfl) (Nat.le_of_ble_eq_true rfl) d (fun H1 locs1 hP1 _ hS1 => ?_)
  rw [wld_set (fun j' => if j' = 7 then z else μ k0 j') _ (by rw [cel_obj hk (by decide)]; rfl), mset_row] at hP1
  exact k H1 locs1 ls hP1 hS1 hl
theorem gf_X0_15 (hX : OkX V E RX0 cc n lvl) (d : decode cc pc = .ok (.getfield 15, 3)) {k0 : Nat} (hk : okd k0 = 0) (k : G V E μ (pc + 3) L (vi (μ k0 0) :: st)) : G V E μ pc L (vr V k0 :: st) := by
  intro H locs ls hP hS hl
  exact va_get (D := V.1) (ci := 0) (v := vi (μ k0 0)) (C := RX0) (T := TX0) (N := 4) (fs := obF V 0 k0 (μ k0)) hX.1 hX.2.1 hX.2.2.2.2.1 inX0 hX.2.2.2.1 hX.2.2.2.2.2.2.1 hP k0 (by rw [wld_at (okd_alen (k := k0) (by rw [hk]; decide)).1, cel_obj hk (by decide)]) rfl 0 (by decide) (hX.2.2.2.2.1 _ tw_145) (fun _ h9 => h9) rfl d (k H locs ls hP hS hl)
theorem pf_X0_15 (hX : OkX V E RX0 cc n lvl) (d : decode cc pc = .ok (.putfield 15, 3)) {k0 : Nat} (hk : okd k0 = 0) {z : Int}  (k : G V E (mset μ k0 0 z) (pc + 3) L st) : G V E μ pc L (vi z :: vr V k0 :: st) := by
  intro H locs ls hP hS hl
  refine va_put (D := V.1) (ci := 0) (v := vi z) (ty := .int) (C := RX0) (T := TX0) (N := 4) (fs := obF V 0 k0 (μ k0)) hX.1 hX.2.1 hX.2.2.2.2.1 inX0 tyX0 tyX0_ok nmX0 hX.2.2.2.1 hX.2.2.2.2.2.2.1 hP (wld_D hX.2.2.2.2.2.2.2.1 hX.2.2.2.2.2.2.2.2.1 μ) hS k0 (by rw [wld_at (okd_alen (k := k0) (by rw [hk]; decide)).1, cel_obj hk (by decide)]) rfl 0 (by decide) (hX.2.2.2.2.1 _ tw_145) (fun _ h9 => h9) rfl (by decide +kernel) rfl rfl (Nat.le_of_ble_eq_true rfl) d (fun H1 locs1 hP1 _ hS1 => ?_)
  rw [wld_set (fun j' => if j' = 0 then z else μ k0 j') _ (by rw [cel_obj hk (by decide)]; rfl), mset_row] at hP1
  exact k H1 locs1 ls hP1 hS1 hl
theorem gf_X6_96 (hX : OkX V E RX6 cc n lvl) (d : decode cc pc = .ok (.getfield 96, 3)) {k0 : Nat} (hk : okd k0 = 0) (k : G V E μ (pc + 3) L (vi (μ k0 0) :: st)) : G V E μ pc L (vr V k0 :: st) := by
  intro H locs ls hP hS hl
  exact va_getN (D := V.1) (ci := 0) (v := vi (μ k0 0)) (C := RX0) (T := TX0) (N := 4) (fs := obF V 0 k0 (μ k0)) hX.1 hX.2.1 hX.2.2.2.2.1 inX0 hX.2.2.2.1 hX.2.2.2.2.2.2.1 hP k0 (by rw [wld_at (okd_alen (k := k0) (by rw [hk]; decide)).1, cel_obj hk (by decide)]) rfl 0 (by decide) (va_Nw.use rfl (hX.2.2.2.2.2.1 _ tn_146)) (fun _ h9 => h9) rfl d (k H locs ls hP hS hl)
theorem pf_X6_96 (hX : OkX V E RX6 cc n lvl) (d : decode cc pc = .ok (.putfield 96, 3)) {k0 : Nat} (hk : okd k0 = 0) {z : Int}  (k : G V E (mset μ k0 0 z) (pc + 3) L st) : G V E μ pc L (vi z :: vr V k0 :: st) := by
  intro H locs ls hP hS hl
  refine va_putN (D := V.1) (ci := 0) (v := vi z) (ty := .int) (C := RX0) (T := TX0) (N := 4) (fs := obF V 0 k0 (μ k0)) hX.1 hX.2.1 hX.2.2.2.2.1 inX0 tyX0 tyX0_ok nmX0 hX.2.2.2.1 hX.2.2.2.2.2.2.1 hP (wld_D hX.2.2.2.2.2.2.2.1 hX.2.2.2.2.2.2.2.2.1 μ) hS k0 (by rw [wld_at (okd_alen (k := k0) (by rw [hk]; decide)).1, cel_obj hk (by decide)]) rfl 0 (by decide) (va_Nw.use rfl (hX.2.2.2.2.2.1 _ tn_146)) (fun _ h9 => h9) rfl (by decide +kernel) rfl rfl (Nat.le_of_ble_eq_true rfl) d (fun H1 locs1 hP1 _ hS1 => ?_)
  rw [wld_set (fun j' => if j' = 0 then z else μ k0 j') _ (by rw [cel_obj hk (by decide)]; rfl), mset_row] at hP1
  exact k H1 locs1 ls hP1 hS1 hl
theorem gf_X0_9 (hX : OkX V E RX0 cc n lvl) (d : decode cc pc = .ok (.getfield 9, 3)) {k0 : Nat} (hk : okd k0 = 0) (k : G V E μ (pc + 3) L (vi (μ k0 1) :: st)) : G V E μ pc L (vr V k0 :: st) := by
  intro H locs ls hP hS hl
  exact va_get (D := V.1) (ci := 0) (v := vi (μ k0 1)) (C := RX0) (T := TX0) (N := 4) (fs := obF V 0 k0 (μ k0)) hX.1 hX.2.1 hX.2.2.2.2.1 inX0 hX.2.2.2.1 hX.2.2.2.2.2.2.1 hP k0 (by rw [wld_at (okd_alen (k := k0) (by rw [hk]; decide)).1, cel_obj hk (by decide)]) rfl 1 (by decide) (hX.2.2.2.2.1 _ tw_147) (fun _ h9 => h9) rfl d (k H locs ls hP hS hl)
theorem pf_X0_9 (hX : OkX V E RX0 cc n lvl) (d : decode cc pc = .ok (.putfield 9, 3)) {k0 : Nat} (hk : okd k0 = 0) {z : Int}  (k : G V E (mset μ k0 1 z) (pc + 3) L st) : G V E μ pc L (vi z :: vr V k0 :: st) := by
  intro H locs ls hP hS hl
  refine va_put (D := V.1) (ci := 0) (v := vi z) (ty := .int) (C := RX0) (T := TX0) (N := 4) (fs := obF V 0 k0 (μ k0)) hX.1 hX.2.1 hX.2.2.2.2.1 inX0 tyX0 tyX0_ok nmX0 hX.2.2.2.1 hX.2.2.2.2.2.2.1 hP (wld_D hX.2.2.2.2.2.2.2.1 hX.2.2.2.2.2.2.2.2.1 μ) hS k0 (by rw [wld_at (okd_alen (k := k0) (by rw [hk]; decide)).1, cel_obj hk (by decide)]) rfl 1 (by decide) (hX.2.2.2.2.1 _ tw_147) (fun _ h9 => h9) rfl (by decide +kernel) rfl rfl (Nat.le_of_ble_eq_true rfl) d (fun H1 locs1 hP1 _ hS1 => ?_)
  rw [wld_set (fun j' => if j' = 1 then z else μ k0 j') _ (by rw [cel_obj hk (by decide)]; rfl), mset_row] at hP1
  exact k H1 locs1 ls hP1 hS1 hl
theorem gf_X6_243 (hX : OkX V E RX6 cc n lvl) (d : decode cc pc = .ok (.getfield 243, 3)) {k0 : Nat} (hk : okd k0 = 0) (k : G V E μ (pc + 3) L (vi (μ k0 1) :: st)) : G V E μ pc L (vr V k0 :: st) := by
  intro H locs ls hP hS hl
  exact va_getN (D := V.1) (ci := 0) (v := vi (μ k0 1)) (C := RX0) (T := TX0) (N := 4) (fs := obF V 0 k0 (μ k0)) hX.1 hX.2.1 hX.2.2.2.2.1 inX0 hX.2.2.2.1 hX.2.2.2.2.2.2.1 hP k0 (by rw [wld_at (okd_alen (k := k0) (by rw [hk]; decide)).1, cel_obj hk (by decide)]) rfl 1 (by decide) (va_Nw.use rfl (hX.2.2.2.2.2.1 _ tn_148)) (fun _ h9 => h9) rfl d (k H locs ls hP hS hl)
theorem pf_X6_243 (hX : OkX V E RX6 cc n lvl) (d : decode cc pc = .ok (.putfield 243, 3)) {k0 : Nat} (hk : okd k0 = 0) {z : Int}  (k : G V E (mset μ k0 1 z) (pc + 3) L st) : G V E μ pc L (vi z :: vr V k0 :: st) := by
  intro H locs ls hP hS hl
  refine va_putN (D := V.1) (ci := 0) (v := vi z) (ty := .int) (C := RX0) (T := TX0) (N := 4) (fs := obF V 0 k0 (μ k0)) hX.1 hX.2.1 hX.2.2.2.2.1 inX0 tyX0 tyX0_ok nmX0 hX.2.2.2.1 hX.2.2.2.2.2.2.1 hP (wld_D hX.2.2.2.2.2.2.2.1 hX.2.2.2.2.2.2.2.2.1 μ) hS k0 (by rw [wld_at (okd_alen (k := k0) (by rw [hk]; decide)).1, cel_obj hk (by decide)]) rfl 1 (by decide) (va_Nw.use rfl (hX.2.2.2.2.2.1 _ tn_148)) (fun _ h9 => h9) rfl (by decide +kernel) rfl rfl (Nat.le_of_ble_eq_true rfl) d (fun H1 locs1 hP1 _ hS1 => ?_)
  rw [wld_set (fun j' => if j' = 1 then z else μ k0 j') _ (by rw [cel_obj hk (by decide)]; rfl), mset_row] at hP1
  exact k H1 locs1 ls hP1 hS1 hl
theorem gf_X0_21 (hX : OkX V E RX0 cc n lvl) (d : decode cc pc = .ok (.getfield 21, 3)) {k0 : Nat} (hk : okd k0 = 0) (k : G V E μ (pc + 3) L (vi (μ k0 2) :: st)) : G V E μ pc L (vr V k0 :: st) := by
  intro H locs ls hP hS hl
  exact va_get (D := V.1) (ci := 0) (v := vi (μ k0 2)) (C := RX0) (T := TX0) (N := 4) (fs := obF V 0 k0 (μ k0)) hX.1 hX.2.1 hX.2.2.2.2.1 inX0 hX.2.2.2.1 hX.2.2.2.2.2.2.1 hP k0 (by rw [wld_at (okd_alen (k := k0) (by rw [hk]; decide)).1, cel_obj hk (by decide)]) rfl 2 (by decide) (hX.2.2.2.2.1 _ tw_149) (fun _ h9 => h9) rfl d (k H locs ls hP hS hl)
theorem pf_X0_21 (hX : OkX V E RX0 cc n lvl) (d : decode cc pc = .ok (.putfield 21, 3)) {k0 : Nat} (hk : okd k0 = 0) {z : Int}  (k : G V E (mset μ k0 2 z) (pc + 3) L st) : G V E μ pc L (vi z :: vr V k0 :: st) := by
  intro H locs ls hP hS hl
  refine va_put (D := V.1) (ci := 0) (v := vi z) (ty := .int) (C := RX0) (T := TX0) (N := 4) (fs := obF V 0 k0 (μ k0)) hX.1 hX.2.1 hX.2.2.2.2.1 inX0 tyX0 tyX0_ok nmX0 hX.2.2.2.1 hX.2.2.2.2.2.2.1 hP (wld_D hX.2.2.2.2.2.2.2.1 hX.2.2.2.2.2.2.2.2.1 μ) hS k0 (by rw [wld_at (okd_alen (k := k0) (by rw [hk]; decide)).1, cel_obj hk (by decide)]) rfl 2 (by decide) (hX.2.2.2.2.1 _ tw_149) (fun _ h9 => h9) rfl (by decide +kernel) rfl rfl (Nat.le_of_ble_eq_true rfl) d (fun H1 locs1 hP1 _ hS1 => ?_)
  rw [wld_set (fun j' => if j' = 2 then z else μ k0 j') _ (by rw [cel_obj hk (by decide)]; rfl), mset_row] at hP1
  exact k H1 locs1 ls hP1 hS1 hl
theorem gf_X6_127 (hX : OkX V E RX6 cc n lvl) (d : decode cc pc = .ok (.getfield 127, 3)) {k0 : Nat} (hk : okd k0 = 0) (k : G V E μ (pc + 3) L (vi (μ k0 2) :: st)) : G V E μ pc L (vr V k0 :: st) := by
  intro H locs ls hP hS hl
  exact va_getN (D := V.1) (ci := 0) (v := vi (μ k0 2)) (C := RX0) (T := TX0) (N := 4) (fs := obF V 0 k0 (μ k0)) hX.1 hX.2.1 hX.2.2.2.2.1 inX0 hX.2.2.2.1 hX.2.2.2.2.2.2.1 hP k0 (by rw [wld_at (okd_alen (k := k0) (by rw [hk]; decide)).1, cel_obj hk (by decide)]) rfl 2 (by decide) (va_Nw.use rfl (hX.2.2.2.2.2.1 _ tn_150)) (fun _ h9 => h9) rfl d (k H locs ls hP hS hl)
theorem pf_X6_127 (hX : OkX V E RX6 cc n lvl) (d : decode cc pc = .ok (.putfield 127, 3)) {k0 : Nat} (hk : okd k0 = 0) {z : Int}  (k : G V E (mset μ k0 2 z) (pc + 3) L st) : G V E μ pc L (vi z :: vr V k0 :: st) := by
  intro H locs ls hP hS hl
  refine va_putN (D := V.1) (ci := 0) (v := vi z) (ty := .int) (C := RX0) (T := TX0) (N := 4) (fs := obF V 0 k0 (μ k0)) hX.1 hX.2.1 hX.2.2.2.2.1 inX0 tyX0 tyX0_ok nmX0 hX.2.2.2.1 hX.2.2.2.2.2.2.1 hP (wld_D hX.2.2.2.2.2.2.2.1 hX.2.2.2.2.2.2.2.2.1 μ) hS k0 (by rw [wld_at (okd_alen (k := k0) (by rw [hk]; decide)).1, cel_obj hk (by decide)]) rfl 2 (by decide) (va_Nw.use rfl (hX.2.2.2.2.2.1 _ tn_150)) (fun _ h9 => h9) rfl (by decide +kernel) rfl rfl (Nat.le_of_ble_eq_true rfl) d (fun H1 locs1 hP1 _ hS1 => ?_)
  rw [wld_set (fun j' => if j' = 2 then z else μ k0 j') _ (by rw [cel_obj hk (by decide)]; rfl), mset_row] at hP1
  exact k H1 locs1 ls hP1 hS1 hl
theorem gf_X0_18 (hX : OkX V E RX0 cc n lvl) (d : decode cc pc = .ok (.getfield 18, 3)) {k0 : Nat} (hk : okd k0 = 0) (k : G V E μ (pc + 3) L (vi (μ k0 3) :: st)) : G V E μ pc L (vr V k0 :: st) := by
  intro H locs ls hP hS hl
  exact va_get (D := V.1) (ci := 0) (v := vi (μ k0 3)) (C := RX0) (T := TX0) (N := 4) (fs := obF V 0 k0 (μ k0)) hX.1 hX.2.1 hX.2.2.2.2.1 inX0 hX.2.2.2.1 hX.2.2.2.2.2.2.1 hP k0 (by rw [wld_at (okd_alen (k := k0) (by rw [hk]; decide)).1, cel_obj hk (by decide)]) rfl 3 (by decide) (hX.2.2.2.2.1 _ tw_151) (fun _ h9 => h9) rfl d (k H locs ls hP hS hl)
theorem pf_X0_18 (hX : OkX V E RX0 cc n lvl) (d : decode cc pc = .ok (.putfield 18, 3)) {k0 : Nat} (hk : okd k0 = 0) {z : Int}  (k : G V E (mset μ k0 3 z) (pc + 3) L st) : G V E μ pc L (vi z :: vr V k0 :: st) := by
  intro H locs ls hP hS hl
  refine va_put (D := V.1) (ci := 0) (v := vi z) (ty := .int) (C := RX0) (T := TX0) (N := 4) (fs := obF V 0 k0 (μ k0)) hX.1 hX.2.1 hX.2.2.2.2.1 inX0 tyX0 tyX0_ok nmX0 hX.2.2.2.1 hX.2.2.2.2.2.2.1 hP (wld_D hX.2.2.2.2.2.2.2.1 hX.2.2.2.2.2.2.2.2.1 μ) hS k0 (by rw [wld_at (okd_alen (k := k0) (by rw [hk]; decide)).1, cel_obj hk (by decide)]) rfl 3 (by decide) (hX.2.2.2.2.1 _ tw_151) (fun _ h9 => h9) rfl (by decide +kernel) rfl rfl (Nat.le_of_ble_eq_true rfl) d (fun H1 locs1 hP1 _ hS1 => ?_)
  rw [wld_set (fun j' => if j' = 3 then z else μ k0 j') _ (by rw [cel_obj hk (by decide)]; rfl), mset_row] at hP1
  exact k H1 locs1 ls hP1 hS1 hl
theorem gf_X6_130 (hX : OkX V E RX6 cc n lvl) (d : decode cc pc = .ok (.getfield 130, 3)) {k0 : Nat} (hk : okd k0 = 0) (k : G V E μ (pc + 3) L (vi (μ k0 3) :: st)) : G V E μ pc L (vr V k0 :: st) := by
  intro H locs ls hP hS hl
  exact va_getN (D := V.1) (ci := 0) (v := vi (μ k0 3)) (C := RX0) (T := TX0) (N := 4) (fs := obF V 0 k0 (μ k0)) hX.1 hX.2.1 hX.2.2.2.2.1 inX0 hX.2.2.2.1 hX.2.2.2.2.2.2.1 hP k0 (by rw [wld_at (okd_alen (k := k0) (by rw [hk]; decide)).1, cel_obj hk (by decide)]) rfl 3 (by decide) (va_Nw.use rfl (hX.2.2.2.2.2.1 _ tn_152)) (fun _ h9 => h9) rfl d (k H locs ls hP hS hl)
theorem pf_X6_130 (hX : OkX V E RX6 cc n lvl) (d : decode cc pc = .ok (.putfield 130, 3)) {k0 : Nat} (hk : okd k0 = 0) {z : Int}  (k : G V E (mset μ k0 3 z) (pc + 3) L st) : G V E μ pc L (vi z :: vr V k0 :: st) := by
  intro H locs ls hP hS hl
  refine va_putN (D := V.1) (ci := 0) (v := vi z) (ty := .int) (C := RX0) (T := TX0) (N := 4) (fs := obF V 0 k0 (μ k0)) hX.1 hX.2.1 hX.2.2.2.2.1 inX0 tyX0 tyX0_ok nmX0 hX.2.2.2.1 hX.2.2.2.2.2.2.1 hP (wld_D hX.2.2.2.2.2.2.2.1 hX.2.2.2.2.2.2.2.2.1 μ) hS k0 (by rw [wld_at (okd_alen (k := k0) (by rw [hk]; decide)).1, cel_obj hk (by decide)]) rfl 3 (by decide) (va_Nw.use rfl (hX.2.2.2.2.2.1 _ tn_152)) (fun _ h9 => h9) rfl (by decide +kernel) rfl rfl (Nat.le_of_ble_eq_true rfl) d (fun H1 locs1 hP1 _ hS1 => ?_)
  rw [wld_set (fun j' => if j' = 3 then z else μ k0 j') _ (by rw [cel_obj hk (by decide)]; rfl), mset_row] at hP1
  exact k H1 locs1 ls hP1 hS1 hl
theorem gf_X6_11 (hX : OkX V E RX6 cc n lvl) (d : decode cc pc = .ok (.getfield 11, 3))  (k : G V E μ (pc + 3) L (vr V 64 :: st)) : G V E μ pc L (vr V 63 :: st) := by
  intro H locs ls hP hS hl
  exact va_get (D := V.1) (ci := 6) (v := vr V 64) (C := RX6) (T := TX6) (N := 11) (fs := obF V 6 63 (μ 63)) hX.1 hX.2.1 hX.2.2.2.2.1 inX6 hX.2.2.2.1 hX.2.2.2.2.2.2.1 hP 63 (by rw [wld_at (okd_alen (k := 63) (by rw [ok63]; decide)).1, cel_obj ok63 (by decide)]) rfl 0 (by decide) (hX.2.2.2.2.1 _ tw_163) (fun _ h9 => h9) rfl d (k H locs ls hP hS hl)
theorem gf_X6_17 (hX : OkX V E RX6 cc n lvl) (d : decode cc pc = .ok (.getfield 17, 3))  (k : G V E μ (pc + 3) L (vr V 65 :: st)) : G V E μ pc L (vr V 63 :: st) := by
  intro H locs ls hP hS hl
  exact va_get (D := V.1) (ci := 6) (v := vr V 65) (C := RX6) (T := TX6) (N := 11) (fs := obF V 6 63 (μ 63)) hX.1 hX.2.1 hX.2.2.2.2.1 inX6 hX.2.2.2.1 hX.2.2.2.2.2.2.1 hP 63 (by rw [wld_at (okd_alen (k := 63) (by rw [ok63]; decide)).1, cel_obj ok63 (by decide)]) rfl 1 (by decide) (hX.2.2.2.2.1 _ tw_164) (fun _ h9 => h9) rfl d (k H locs ls hP hS hl)
theorem gf_X6_23 (hX : OkX V E RX6 cc n lvl) (d : decode cc pc = .ok (.getfield 23, 3))  (k : G V E μ (pc + 3) L (vr V 66 :: st)) : G V E μ pc L (vr V 63 :: st) := by
  intro H locs ls hP hS hl
  exact va_get (D := V.1) (ci := 6) (v := vr V 66) (C := RX6) (T := TX6) (N := 11) (fs := obF V 6 63 (μ 63)) hX.1 hX.2.1 hX.2.2.2.2.1 inX6 hX.2.2.2.1 hX.2.2.2.2.2.2.1 hP 63 (by rw [wld_at (okd_alen (k := 63) (by rw [ok63]; decide)).1, cel_obj ok63 (by decide)]) rfl 2 (by decide) (hX.2.2.2.2.1 _ tw_165) (fun _ h9 => h9) rfl d (k H locs ls hP hS hl)
theorem gf_X6_30 (hX : OkX V E RX6 cc n lvl) (d : decode cc pc = .ok (.getfield 30, 3))  (k : G V E μ (pc + 3) L (vr V 67 :: st)) : G V E μ pc L (vr V 63 :: st) := by
  intro H locs ls hP hS hl
  exact va_get (D := V.1) (ci := 6) (v := vr V 67) (C := RX6) (T := TX6) (N := 11) (fs := obF V 6 63 (μ 63)) hX.1 hX.2.1 hX.2.2.2.2.1 inX6 hX.2.2.2.1 hX.2.2.2.2.2.2.1 hP 63 (by rw [wld_at (okd_alen (k := 63) (by rw [ok63]; decide)).1, cel_obj ok63 (by decide)]) rfl 3 (by decide) (hX.2.2.2.2.1 _ tw_166) (fun _ h9 => h9) rfl d (k H locs ls hP hS hl)
theorem gf_X6_37 (hX : OkX V E RX6 cc n lvl) (d : decode cc pc = .ok (.getfield 37, 3))  (k : G V E μ (pc + 3) L (vr V 69 :: st)) : G V E μ pc L (vr V 63 :: st) := by
  intro H locs ls hP hS hl
  exact va_get (D := V.1) (ci := 6) (v := vr V 69) (C := RX6) (T := TX6) (N := 11) (fs := obF V 6 63 (μ 63)) hX.1 hX.2.1 hX.2.2.2.2.1 inX6 hX.2.2.2.1 hX.2.2.2.2.2.2.1 hP 63 (by rw [wld_at (okd_alen (k := 63) (by rw [ok63]; decide)).1, cel_obj ok63 (by decide)]) rfl 4 (by decide) (hX.2.2.2.2.1 _ tw_167) (fun _ h9 => h9) rfl d (k H locs ls hP hS hl)
theorem gf_X6_44 (hX : OkX V E RX6 cc n lvl) (d : decode cc pc = .ok (.getfield 44, 3))  (k : G V E μ (pc + 3) L (vr V 72 :: st)) : G V E μ pc L (vr V 63 :: st) := by
  intro H locs ls hP hS hl
  exact va_get (D := V.1) (ci := 6) (v := vr V 72) (C := RX6) (T := TX6) (N := 11) (fs := obF V 6 63 (μ 63)) hX.1 hX.2.1 hX.2.2.2.2.1 inX6 hX.2.2.2.1 hX.2.2.2.2.2.2.1 hP 63 (by rw [wld_at (okd_alen (k := 63) (by rw [ok63]; decide)).1, cel_obj ok63 (by decide)]) rfl 5 (by decide) (hX.2.2.2.2.1 _ tw_168) (fun _ h9 => h9) rfl d (k H locs ls hP hS hl)
theorem gf_X6_59 (hX : OkX V E RX6 cc n lvl) (d : decode cc pc = .ok (.getfield 59, 3))  (k : G V E μ (pc + 3) L (vi (μ 63 6) :: st)) : G V E μ pc L (vr V 63 :: st) := by
  intro H locs ls hP hS hl
  exact va_get (D := V.1) (ci := 6) (v := vi (μ 63 6)) (C := RX6) (T := TX6) (N := 11) (fs := obF V 6 63 (μ 63)) hX.1 hX.2.1 hX.2.2.2.2.1 inX6 hX.2.2.2.1 hX.2.2.2.2.2.2.1 hP 63 (by rw [wld_at (okd_alen (k := 63) (by rw [ok63]; decide)).1, cel_obj ok63 (by decide)]) rfl 6 (by decide) (hX.2.2.2.2.1 _ tw_169) (fun _ h9 => h9) rfl d (k H locs ls hP hS hl)
theorem pf_X6_59 (hX : OkX V E RX6 cc n lvl) (d : decode cc pc = .ok (.putfield 59, 3))  {z : Int}  (k : G V E (mset μ 63 6 z) (pc + 3) L st) : G V E μ pc L (vi z :: vr V 63 :: st) := by
  intro H locs ls hP hS hl
  refine va_put (D := V.1) (ci := 6) (v := vi z) (ty := .int) (C := RX6) (T := TX6) (N := 11) (fs := obF V 6 63 (μ 63)) hX.1 hX.2.1 hX.2.2.2.2.1 inX6 tyX6 tyX6_ok nmX6 hX.2.2.2.1 hX.2.2.2.2.2.2.1 hP (wld_D hX.2.2.2.2.2.2.2.1 hX.2.2.2.2.2.2.2.2.1 μ) hS 63 (by rw [wld_at (okd_alen (k := 63) (by rw [ok63]; decide)).1, cel_obj ok63 (by decide)]) rfl 6 (by decide) (hX.2.2.2.2.1 _ tw_169) (fun _ h9 => h9) rfl (by decide +kernel) rfl rfl (Nat.le_of_ble_eq_true rfl) d (fun H1 locs1 hP1 _ hS1 => ?_)
  rw [wld_set (fun j' => if j' = 6 then z else μ 63 j') _ (by rw [cel_obj ok63 (by decide)]; rfl), mset_row] at hP1
  exact k H1 locs1 ls hP1 hS1 hl
theorem gf_X6_117 (hX : OkX V E RX6 cc n lvl) (d : decode cc pc = .ok (.getfield 117, 3))  (k : G V E μ (pc + 3) L (vi (μ 63 7) :: st)) : G V E μ pc L (vr V 63 :: st) := by
  intro H locs ls hP hS hl
  exact va_get (D := V.1) (ci := 6) (v := vi (μ 63 7)) (C := RX6) (T := TX6) (N := 11) (fs := obF V 6 63 (μ 63)) hX.1 hX.2.1 hX.2.2.2.2.1 inX6 hX.2.2.2.1 hX.2.2.2.2.2.2.1 hP 63 (by rw [wld_at (okd_alen (k := 63) (by rw [ok63]; decide)).1, cel_obj ok63 (by decide)]) rfl 7 (by decide) (hX.2.2.2.2.1 _ tw_170) (fun _ h9 => h9) rfl d (k H locs ls hP hS hl)
theorem pf_X6_117 (hX : OkX V E RX6 cc n lvl) (d : decode cc pc = .ok (.putfield 117, 3))  {z : Int}  (k : G V E (mset μ 63 7 z) (pc + 3) L st) : G V E μ pc L (vi z :: vr V 63 :: st) := by
  intro H locs ls hP hS hl
  refine va_put (D := V.1) (ci := 6) (v := vi z) (ty := .int) (C := RX6) (T := TX6) (N := 11) (fs := obF V 6 63 (μ 63)) hX.1 hX.2.1 hX.2.2.2.2.1 inX6 tyX6 tyX6_ok nmX6 hX.2.2.2.1 hX.2.2.2.2.2.2.1 hP (wld_D hX.2.2.2.2.2.2.2.1 hX.2.2.2.2.2.2.2.2.1 μ) hS 63 (by rw [wld_at (okd_alen (k := 63) (by rw [ok63]; decide)).1, cel_obj ok63 (by decide)]) rfl 7 (by decide) (hX.2.2.2.2.1 _ tw_170) (fun _ h9 => h9) rfl (by decide +kernel) rfl rfl (Nat.le_of_ble_eq_true rfl) d (fun H1 locs1 hP1 _ hS1 => ?_)
  rw [wld_set (fun j' => if j' = 7 then z else μ 63 j') _ (by rw [cel_obj ok63 (by decide)]; rfl), mset_row] at hP1
  exact k H1 locs1 ls hP1 hS1 hl
theorem gf_X6_216 (hX : OkX V E RX6 cc n lvl) (d : decode cc pc = .ok (.getfield 216, 3))  (k : G V E μ (pc + 3) L (vi (μ 63 8) :: st)) : G V E μ pc L (vr V 63 :: st) := by
  intro H locs ls hP hS hl
  exact va_get (D := V.1) (ci := 6) (v := vi (μ 63 8)) (C := RX6) (T := TX6) (N := 11) (fs := obF V 6 63 (μ 63)) hX.1 hX.2.1 hX.2.2.2.2.1 inX6 hX.2.2.2.1 hX.2.2.2.2.2.2.1 hP 63 (by rw [wld_at (okd_alen (k := 63) (by rw [ok63]; decide)).1, cel_obj ok63 (by decide)]) rfl 8 (by decide) (hX.2.2.2.2.1 _ tw_171) (fun _ h9 => h9) rfl d (k H locs ls hP hS hl)
theorem pf_X6_216 (hX : OkX V E RX6 cc n lvl) (d : decode cc pc = .ok (.putfield 216, 3))  {z : Int}  (k : G V E (mset μ 63 8 z) (pc + 3) L st) : G V E μ pc L (vi z :: vr V 63 :: st) := by
  intro H locs ls hP hS hl
  refine va_put (D := V.1) (ci := 6) (v := vi z) (ty := .int) (C := RX6) (T := TX6) (N := 11) (fs := obF V 6 63 (μ 63)) hX.1 hX.2.1 hX.2.2.2.2.1 inX6 tyX6 tyX6_ok nmX6 hX.2.2.2.1 hX.2.2.2.2.2.2.1 hP (wld_D hX.2.2.2.2.2.2.2.1 hX.2.2.2.2.2.2.2.2.1 μ) hS 63 (by rw [wld_at (okd_alen (k := 63) (by rw [ok63]; decide)).1, cel_obj ok63 (by decide)]) rfl 8 (by decide) (hX.2.2.2.2.1 _ tw_171) (fun _ h9 => h9) rfl (by decide +kernel) rfl rfl (Nat.le_of_ble_eq_true rfl) d (fun H1 locs1 hP1 _ hS1 => ?_)
  rw [wld_set (fun j' => if j' = 8 then z else μ 63 j') _ (by rw [cel_obj ok63 (by decide)]; rfl), mset_row] at hP1
  exact k H1 locs1 ls hP1 hS1 hl
theorem gf_X6_111 (hX : OkX V E RX6 cc n lvl) (d : decode cc pc = .ok (.getfield 111, 3))  (k : G V E μ (pc + 3) L (vi (μ 63 9) :: st)) : G V E μ pc L (vr V 63 :: st) := by
  intro H locs ls hP hS hl
  exact va_get (D := V.1) (ci := 6) (v := vi (μ 63 9)) (C := RX6) (T := TX6) (N := 11) (fs := obF V 6 63 (μ 63)) hX.1 hX.2.1 hX.2.2.2.2.1 inX6 hX.2.2.2.1 hX.2.2.2.2.2.2.1 hP 63 (by rw [wld_at (okd_alen (k := 63) (by rw [ok63]; decide)).1, cel_obj ok63 (by decide)]) rfl 9 (by decide) (hX.2.2.2.2.1 _ tw_172) (fun _ h9 => h9) rfl d (k H locs ls hP hS hl)
theorem pf_X6_111 (hX : OkX V E RX6 cc n lvl) (d : decode cc pc = .ok (.putfield 111, 3))  {z : Int}  (k : G V E (mset μ 63 9 z) (pc + 3) L st) : G V E μ pc L (vi z :: vr V 63 :: st) := by
  intro H locs ls hP hS hl
  refine va_put (D := V.1) (ci := 6) (v := vi z) (ty := .int) (C := RX6) (T := TX6) (N := 11) (fs := obF V 6 63 (μ 63)) hX.1 hX.2.1 hX.2.2.2.2.1 inX6 tyX6 tyX6_ok nmX6 hX.2.2.2.1 hX.2.2.2.2.2.2.1 hP (wld_D hX.2.2.2.2.2.2.2.1 hX.2.2.2.2.2.2.2.2.1 μ) hS 63 (by rw [wld_at (okd_alen (k := 63) (by rw [ok63]; decide)).1, cel_obj ok63 (by decide)]) rfl 9 (by decide) (hX.2.2.2.2.1 _ tw_172) (fun _ h9 => h9) rfl (by decide +kernel) rfl rfl (Nat.le_of_ble_eq_true rfl) d (fun H1 locs1 hP1 _ hS1 => ?_)
  rw [wld_set (fun j' => if j' = 9 then z else μ 63 j') _ (by rw [cel_obj ok63 (by decide)]; rfl), mset_row] at hP1
  exact k H1 locs1 ls hP1 hS1 hl
theorem gf_X6_51 (hX : OkX V E RX6 cc n lvl) (d : decode cc pc = .ok (.getfield 51, 3))  (k : G V E μ (pc + 3) L (vi (μ 63 10) :: st)) : G V E μ pc L (vr V 63 :: st) := by
  intro H locs ls hP hS hl
  exact va_get (D := V.1) (ci := 6) (v := vi (μ 63 10)) (C := RX6) (T := TX6) (N := 11) (fs := obF V 6 63 (μ 63)) hX.1 hX.2.1 hX.2.2.2.2.1 inX6 hX.2.2.2.1 hX.2.2.2.2.2.2.1 hP 63 (by rw [wld_at (okd_alen (k := 63) (by rw [ok63]; decide)).1, cel_obj ok63 (by decide)]) rfl 10 (by decide) (hX.2.2.2.2.1 _ tw_173) (fun _ h9 => h9) rfl d (k H locs ls hP hS hl)
theorem pf_X6_51 (hX : OkX V E RX6 cc n lvl) (d : decode cc pc = .ok (.putfield 51, 3))  {z : Int}  (k : G V E (mset μ 63 10 z) (pc + 3) L st) : G V E μ pc L (vi z :: vr V 63 :: st) := by
  intro H locs ls hP hS hl
  refine va_put (D := V.1) (ci := 6) (v := vi z) (ty := .int) (C := RX6) (T := TX6) (N := 11) (fs := obF V 6 63 (μ 63)) hX.1 hX.2.1 hX.2.2.2.2.1 inX6 tyX6 tyX6_ok nmX6 hX.2.2.2.1 hX.2.2.2.2.2.2.1 hP (wld_D hX.2.2.2.2.2.2.2.1 hX.2.2.2.2.2.2.2.2.1 μ) hS 63 (by rw [wld_at (okd_alen (k := 63) (by rw [ok63]; decide)).1, cel_obj ok63 (by decide)]) rfl 10 (by decide) (hX.2.2.2.2.1 _ tw_173) (fun _ h9 => h9) rfl (by decide +kernel) rfl rfl (Nat.le_of_ble_eq_true rfl) d (fun H1 locs1 hP1 _ hS1 => ?_)
  rw [wld_set (fun j' => if j' = 10 then z else μ 63 j') _ (by rw [cel_obj ok63 (by decide)]; rfl), mset_row] at hP1
  exact k H1 locs1 ls hP1 hS1 hl
theorem gf_X7_93 (hX : OkX V E RX7 cc n lvl) (d : decode cc pc = .ok (.getfield 93, 3))  (k : G V E μ (pc + 3) L (vi (μ 76 0) :: st)) : G V E μ pc L (vr V 76 :: st) := by
  intro H locs ls hP hS hl
  exact va_get (D := V.1) (ci := 7) (v := vi (μ 76 0)) (C := RX7) (T := TX7) (N := 34) (fs := obF V 7 76 (μ 76)) hX.1 hX.2.1 hX.2.2.2.2.1 inX7 hX.2.2.2.1 hX.2.2.2.2.2.2.1 hP 76 (by rw [wld_at (okd_alen (k := 76) (by rw [ok76]; decide)).1, cel_obj ok76 (by decide)]) rfl 0 (by decide) (hX.2.2.2.2.1 _ tw_510) (fun _ h9 => h9) rfl d (k H locs ls hP hS hl)
theorem pf_X7_93 (hX : OkX V E RX7 cc n lvl) (d : decode cc pc = .ok (.putfield 93, 3))  {z : Int}  (k : G V E (mset μ 76 0 z) (pc + 3) L st) : G V E μ pc L (vi z :: vr V 76 :: st) := by
  intro H locs ls hP hS hl
  refine va_put (D := V.1) (ci := 7) (v := vi z) (ty := .int) (C := RX7) (T := TX7) (N := 34) (fs := obF V 7 76 (μ 76)) hX.1 hX.2.1 hX.2.2.2.2.1 inX7 tyX7 tyX7_ok nmX7 hX.2.2.2.1 hX.2.2.2.2.2.2.1 hP (wld_D hX.2.2.2.2.2.2.2.1 hX.2.2.2.2.2.2.2.2.1 μ) hS 76 (by rw [wld_at (okd_alen (k := 76) (by rw [ok76]; decide)).1, cel_obj ok76 (by decide)]) rfl 0 (by decide) (hX.2.2.2.2.1 _ tw_510) (fun _ h9 => h9) rfl (by decide +kernel) rfl rfl (Nat.le_of_ble_eq_true rfl) d (fun H1 locs1 hP1 _ hS1 => ?_)
  rw [wld_set (fun j' => if j' = 0 then z else μ 76 j') _ (by rw [cel_obj ok76 (by decide)]; rfl), mset_row] at hP1
  exact k H1 locs1 ls hP1 hS1 hl
theorem gf_X7_7 (hX : OkX V E RX7 cc n lvl) (d : decode cc pc = .ok (.getfield 7, 3))  (k : G V E μ (pc + 3) L (vr V 77 :: st)) : G V E μ pc L (vr V 76 :: st) := by
  intro H locs ls hP hS hl
  exact va_get (D := V.1) (ci := 7) (v := vr V 77) (C := RX7) (T := TX7) (N := 34) (fs := obF V 7 76 (μ 76)) hX.1 hX.2.1 hX.2.2.2.2.1 inX7 hX.2.2.2.1 hX.2.2.2.2.2.2.1 hP 76 (by rw [wld_at (okd_alen (k := 76) (by rw [ok76]; decide)).1, cel_obj ok76 (by decide)]) rfl 1 (by decide) (hX.2.2.2.2.1 _ tw_511) (fun _ h9 => h9) rfl d (k H locs ls hP hS hl)
theorem gf_X7_13 (hX : OkX V E RX7 cc n lvl) (d : decode cc pc = .ok (.getfield 13, 3))  (k : G V E μ (pc + 3) L (vr V 78 :: st)) : G V E μ pc L (vr V 76 :: st) := by
  intro H locs ls hP hS hl
  exact va_get (D := V.1) (ci := 7) (v := vr V 78) (C := RX7) (T := TX7) (N := 34) (fs := obF V 7 76 (μ 76)) hX.1 hX.2.1 hX.2.2.2.2.1 inX7 hX.2.2.2.1 hX.2.2.2.2.2.2.1 hP 76 (by rw [wld_at (okd_alen (k := 76) (by rw [ok76]; decide)).1, cel_obj ok76 (by decide)]) rfl 2 (by decide) (hX.2.2.2.2.1 _ tw_512) (fun _ h9 => h9) rfl d (k H locs ls hP hS hl)
theorem gf_X7_16 (hX : OkX V E RX7 cc n lvl) (d : decode cc pc = .ok (.getfield 16, 3))  (k : G V E μ (pc + 3) L (vr V 79 :: st)) : G V E μ pc L (vr V 76 :: st) := by
  intro H locs ls hP hS hl
  exact va_get (D := V.1) (ci := 7) (v := vr V 79) (C := RX7) (T := TX7) (N := 34) (fs := obF V 7 76 (μ 76)) hX.1 hX.2.1 hX.2.2.2.2.1 inX7 hX.2.2.2.1 hX.2.2.2.2.2.2.1 hP 76 (by rw [wld_at (okd_alen (k := 76) (by rw [ok76]; decide)).1, cel_obj ok76 (by decide)]) rfl 3 (by decide) (hX.2.2.2.2.1 _ tw_513) (fun _ h9 => h9) rfl d (k H locs ls hP hS hl)
theorem gf_X7_19 (hX : OkX V E RX7 cc n lvl) (d : decode cc pc = .ok (.getfield 19, 3))  (k : G V E μ (pc + 3) L (vr V 80 :: st)) : G V E μ pc L (vr V 76 :: st) := by
  intro H locs ls hP hS hl
  exact va_get (D := V.1) (ci := 7) (v := vr V 80) (C := RX7) (T := TX7) (N := 34) (fs := obF V 7 76 (μ 76)) hX.1 hX.2.1 hX.2.2.2.2.1 inX7 hX.2.2.2.1 hX.2.2.2.2.2.2.1 hP 76 (by rw [wld_at (okd_alen (k := 76) (by rw [ok76]; decide)).1, cel_obj ok76 (by decide)]) rfl 4 (by decide) (hX.2.2.2.2.1 _ tw_514) (fun _ h9 => h9) rfl d (k H locs ls hP hS hl)
theorem gf_X7_22 (hX : OkX V E RX7 cc n lvl) (d : decode cc pc = .ok (.getfield 22, 3))  (k : G V E μ (pc + 3) L (vr V 81 :: st)) : G V E μ pc L (vr V 76 :: st) := by
  intro H locs ls hP hS hl
  exact va_get (D := V.1) (ci := 7) (v := vr V 81) (C := RX7) (T := TX7) (N := 34) (fs := obF V 7 76 (μ 76)) hX.1 hX.2.1 hX.2.2.2.2.1 inX7 hX.2.2.2.1 hX.2.2.2.2.2.2.1 hP 76 (by rw [wld_at (okd_alen (k := 76) (by rw [ok76]; decide)).1, cel_obj ok76 (by decide)]) rfl 5 (by decide) (hX.2.2.2.2.1 _ tw_515) (fun _ h9 => h9) rfl d (k H locs ls hP hS hl)
theorem gf_X7_25 (hX : OkX V E RX7 cc n lvl) (d : decode cc pc = .ok (.getfield 25, 3))  (k : G V E μ (pc + 3) L (vr V 82 :: st)) : G V E μ pc L (vr V 76 :: st) := by
  intro H locs ls hP hS hl
  exact va_get (D := V.1) (ci := 7) (v := vr V 82) (C := RX7) (T := TX7) (N := 34) (fs := obF V 7 76 (μ 76)) hX.1 hX.2.1 hX.2.2.2.2.1 inX7 hX.2.2.2.1 hX.2.2.2.2.2.2.1 hP 76 (by rw [wld_at (okd_alen (k := 76) (by rw [ok76]; decide)).1, cel_obj ok76 (by decide)]) rfl 6 (by decide) (hX.2.2.2.2.1 _ tw_516) (fun _ h9 => h9) rfl d (k H locs ls hP hS hl)
theorem gf_X7_28 (hX : OkX V E RX7 cc n lvl) (d : decode cc pc = .ok (.getfield 28, 3))  (k : G V E μ (pc + 3) L (vr V 83 :: st)) : G V E μ pc L (vr V 76 :: st) := by
  intro H locs ls hP hS hl
  exact va_get (D := V.1) (ci := 7) (v := vr V 83) (C := RX7) (T := TX7) (N := 34) (fs := obF V 7 76 (μ 76)) hX.1 hX.2.1 hX.2.2.2.2.1 inX7 hX.2.2.2.1 hX.2.2.2.2.2.2.1 hP 76 (by rw [wld_at (okd_alen (k := 76) (by rw [ok76]; decide)).1, cel_obj ok76 (by decide)]) rfl 7 (by decide) (hX.2.2.2.2.1 _ tw_517) (fun _ h9 => h9) rfl d (k H locs ls hP hS hl)
theorem gf_X7_31 (hX : OkX V E RX7 cc n lvl) (d : decode cc pc = .ok (.getfield 31, 3))  (k : G V E μ (pc + 3) L (vr V 84 :: st)) : G V E μ pc L (vr V 76 :: st) := by
  intro H locs ls hP hS hl
  exact va_get (D := V.1) (ci := 7) (v := vr V 84) (C := RX7) (T := TX7) (N := 34) (fs := obF V 7 76 (μ 76)) hX.1 hX.2.1 hX.2.2.2.2.1 inX7 hX.2.2.2.1 hX.2.2.2.2.2.2.1 hP 76 (by rw [wld_at (okd_alen (k := 76) (by rw [ok76]; decide)).1, cel_obj ok76 (by decide)]) rfl 8 (by decide) (hX.2.2.2.2.1 _ tw_518) (fun _ h9 => h9) rfl d (k H locs ls hP hS hl)
theorem gf_X7_35 (hX : OkX V E RX7 cc n lvl) (d : decode cc pc = .ok (.getfield 35, 3))  (k : G V E μ (pc + 3) L (vr V 85 :: st)) : G V E μ pc L (vr V 76 :: st) := by
  intro H locs ls hP hS hl
  exact va_get (D := V.1) (ci := 7) (v := vr V 85) (C := RX7) (T := TX7) (N := 34) (fs := obF V 7 76 (μ 76)) hX.1 hX.2.1 hX.2.2.2.2.1 inX7 hX.2.2.2.1 hX.2.2.2.2.2.2.1 hP 76 (by rw [wld_at (okd_alen (k := 76) (by rw [ok76]; decide)).1, cel_obj ok76 (by decide)]) rfl 9 (by decide) (hX.2.2.2.2.1 _ tw_519) (fun _ h9 => h9) rfl d (k H locs ls hP hS hl)
theorem gf_X7_38 (hX : OkX V E RX7 cc n lvl) (d : decode cc pc = .ok (.getfield 38, 3))  (k : G V E μ (pc + 3) L (vr V 86 :: st)) : G V E μ pc L (vr V 76 :: st) := by
  intro H locs ls hP hS hl
  exact va_get (D := V.1) (ci := 7) (v := vr V 86) (C := RX7) (T := TX7) (N := 34) (fs := obF V 7 76 (μ 76)) hX.1 hX.2.1 hX.2.2.2.2.1 inX7 hX.2.2.2.1 hX.2.2.2.2.2.2.1 hP 76 (by rw [wld_at (okd_alen (k := 76) (by rw [ok76]; decide)).1, cel_obj ok76 (by decide)]) rfl 10 (by decide) (hX.2.2.2.2.1 _ tw_520) (fun _ h9 => h9) rfl d (k H locs ls hP hS hl)
theorem gf_X7_41 (hX : OkX V E RX7 cc n lvl) (d : decode cc pc = .ok (.getfield 41, 3))  (k : G V E μ (pc + 3) L (vr V 87 :: st)) : G V E μ pc L (vr V 76 :: st) := by
  intro H locs ls hP hS hl
  exact va_get (D := V.1) (ci := 7) (v := vr V 87) (C := RX7) (T := TX7) (N := 34) (fs := obF V 7 76 (μ 76)) hX.1 hX.2.1 hX.2.2.2.2.1 inX7 hX.2.2.2.1 hX.2.2.2.2.2.2.1 hP 76 (by rw [wld_at (okd_alen (k := 76) (by rw [ok76]; decide)).1, cel_obj ok76 (by decide)]) rfl 11 (by decide) (hX.2.2.2.2.1 _ tw_521) (fun _ h9 => h9) rfl d (k H locs ls hP hS hl)
theorem gf_X7_44 (hX : OkX V E RX7 cc n lvl) (d : decode cc pc = .ok (.getfield 44, 3))  (k : G V E μ (pc + 3) L (vr V 88 :: st)) : G V E μ pc L (vr V 76 :: st) := by
  intro H locs ls hP hS hl
  exact va_get (D := V.1) (ci := 7) (v := vr V 88) (C := RX7) (T := TX7) (N := 34) (fs := obF V 7 76 (μ 76)) hX.1 hX.2.1 hX.2.2.2.2.1 inX7 hX.2.2.2.1 hX.2.2.2.2.2.2.1 hP 76 (by rw [wld_at (okd_alen (k := 76) (by rw [ok76]; decide)).1, cel_obj ok76 (by decide)]) rfl 12 (by decide) (hX.2.2.2.2.1 _ tw_522) (fun _ h9 => h9) rfl d (k H locs ls hP hS hl)
theorem gf_X7_47 (hX : OkX V E RX7 cc n lvl) (d : decode cc pc = .ok (.getfield 47, 3))  (k : G V E μ (pc + 3) L (vi (μ 76 13) :: st)) : G V E μ pc L (vr V 76 :: st) := by
  intro H locs ls hP hS hl
  exact va_get (D := V.1) (ci := 7) (v := vi (μ 76 13)) (C := RX7) (T := TX7) (N := 34) (fs := obF V 7 76 (μ 76)) hX.1 hX.2.1 hX.2.2.2.2.1 inX7 hX.2.2.2.1 hX.2.2.2.2.2.2.1 hP 76 (by rw [wld_at (okd_alen (k := 76) (by rw [ok76]; decide)).1, cel_obj ok76 (by decide)]) rfl 13 (by decide) (hX.2.2.2.2.1 _ tw_523) (fun _ h9 => h9) rfl d (k H locs ls hP hS hl)
theorem pf_X7_47 (hX : OkX V E RX7 cc n lvl) (d : decode cc pc = .ok (.putfield 47, 3))  {z : Int}  (k : G V E (mset μ 76 13 z) (pc + 3) L st) : G V E μ pc L (vi z :: vr V 76 :: st) := by
  intro H locs ls hP hS hl
  refine va_put (D := V.1) (ci := 7) (v := vi z) (ty := .int) (C := RX7) (T := TX7) (N := 34) (fs := obF V 7 76 (μ 76)) hX.1 hX.2.1 hX.2.2.2.2.1 inX7 tyX7 tyX7_ok nmX7 hX.2.2.2.1 hX.2.2.2.2.2.2.1 hP (wld_D hX.2.2.2.2.2.2.2.1 hX.2.2.2.2.2.2.2.2.1 μ) hS 76 (by rw [wld_at (okd_alen (k := 76) (by rw [ok76]; decide)).1, cel_obj ok76 (by decide)]) rfl 13 (by decide) (hX.2.2.2.2.1 _ tw_523) (fun _ h9 => h9) rfl (by decide +kernel) rfl rfl (Nat.le_of_ble_eq_true rfl) d (fun H1 locs1 hP1 _ hS1 => ?_)
  rw [wld_set (fun j' => if j' = 13 then z else μ 76 j') _ (by rw [cel_obj ok76 (by decide)]; rfl), mset_row] at hP1
  exact k H1 locs1 ls hP1 hS1 hl
theorem gf_X7_135 (hX : OkX V E RX7 cc n lvl) (d : decode cc pc = .ok (.getfield 135, 3))  (k : G V E μ (pc + 3) L (vi (μ 76 14) :: st)) : G V E μ pc L (vr V 76 :: st) := by
  intro H locs ls hP hS hl
  exact va_get (D := V.1) (ci := 7) (v := vi (μ 76 14)) (C := RX7) (T := TX7) (N := 34) (fs := obF V 7 76 (μ 76)) hX.1 hX.2.1 hX.2.2.2.2.1 inX7 hX.2.2.2.1 hX.2.2.2.2.2.2.1 hP 76 (by rw [wld_at (okd_alen (k := 76) (by rw [ok76]; decide)).1, cel_obj ok76 (by decide)]) rfl 14 (by decide) (hX.2.2.2.2.1 _ tw_524) (fun _ h9 => h9) rfl d (k H locs ls hP hS hl)
theorem pf_X7_135 (hX : OkX V E RX7 cc n lvl) (d : decode cc pc = .ok (.putfield 135, 3))  {z : Int}  (k : G V E (mset μ 76 14 z) (pc + 3) L st) : G V E μ pc L (vi z :: vr V 76 :: st) := by
  intro H locs ls hP hS hl
  refine va_put (D := V.1) (ci := 7) (v := vi z) (ty := .int) (C := RX7) (T := TX7) (N := 34) (fs := obF V 7 76 (μ 76)) hX.1 hX.2.1 hX.2.2.2.2.1 inX7 tyX7 tyX7_ok nmX7 hX.2.2.2.1 hX.2.2.2.2.2.2.1 hP (wld_D hX.2.2.2.2.2.2.2.1 hX.2.2.2.2.2.2.2.2.1 μ) hS 76 (by rw [wld_at (okd_alen (k := 76) (by rw [ok76]; decide)).1, cel_obj ok76 (by decide)]) rfl 14 (by decide) (hX.2.2.2.2.1 _ tw_524) (fun _ h9 => h9) rfl (by decide +kernel) rfl rfl (Nat.le_of_ble_eq_true rfl) d (fun H1 locs1 hP1 _ hS1 => ?_)
  rw [wld_set (fun j' => if j' = 14 then z else μ 76 j') _ (by rw [cel_obj ok76 (by decide)]; rfl), mset_row] at hP1
  exact k H1 locs1 ls hP1 hS1 hl
theorem gf_X7_51 (hX : OkX V E RX7 cc n lvl) (d : decode cc pc = .ok (.getfield 51, 3))  (k : G V E μ (pc + 3) L (vr V 89 :: st)) : G V E μ pc L (vr V 76 :: st) := by
  intro H locs ls hP hS hl
  exact va_get (D := V.1) (ci := 7) (v := vr V 89) (C := RX7) (T := TX7) (N := 34) (fs := obF V 7 76 (μ 76)) hX.1 hX.2.1 hX.2.2.2.2.1 inX7 hX.2.2.2.1 hX.2.2.2.2.2.2.1 hP 76 (by rw [wld_at (okd_alen (k := 76) (by rw [ok76]; decide)).1, cel_obj ok76 (by decide)]) rfl 15 (by decide) (hX.2.2.2.2.1 _ tw_525) (fun _ h9 => h9) rfl d (k H locs ls hP hS hl)
theorem gf_X7_54 (hX : OkX V E RX7 cc n lvl) (d : decode cc pc = .ok (.getfield 54, 3))  (k : G V E μ (pc + 3) L (vr V 90 :: st)) : G V E μ pc L (vr V 76 :: st) := by
  intro H locs ls hP hS hl
  exact va_get (D := V.1) (ci := 7) (v := vr V 90) (C := RX7) (T := TX7) (N := 34) (fs := obF V 7 76 (μ 76)) hX.1 hX.2.1 hX.2.2.2.2.1 inX7 hX.2.2.2.1 hX.2.2.2.2.2.2.1 hP 76 (by rw [wld_at (okd_alen (k := 76) (by rw [ok76]; decide)).1, cel_obj ok76 (by decide)]) rfl 16 (by decide) (hX.2.2.2.2.1 _ tw_526) (fun _ h9 => h9) rfl d (k H locs ls hP hS hl)
theorem gf_X7_185 (hX : OkX V E RX7 cc n lvl) (d : decode cc pc = .ok (.getfield 185, 3))  (k : G V E μ (pc + 3) L (vi (μ 76 17) :: st)) : G V E μ pc L (vr V 76 :: st) := by
  intro H locs ls hP hS hl
  exact va_get (D := V.1) (ci := 7) (v := vi (μ 76 17)) (C := RX7) (T := TX7) (N := 34) (fs := obF V 7 76 (μ 76)) hX.1 hX.2.1 hX.2.2.2.2.1 inX7 hX.2.2.2.1 hX.2.2.2.2.2.2.1 hP 76 (by rw [wld_at (okd_alen (k := 76) (by rw [ok76]; decide)).1, cel_obj ok76 (by decide)]) rfl 17 (by decide) (hX.2.2.2.2.1 _ tw_527) (fun _ h9 => h9) rfl d (k H locs ls hP hS hl)
theorem pf_X7_185 (hX : OkX V E RX7 cc n lvl) (d : decode cc pc = .ok (.putfield 185, 3))  {z : Int}  (k : G V E (mset μ 76 17 z) (pc + 3) L st) : G V E μ pc L (vi z :: vr V 76 :: st) := by
  intro H locs ls hP hS hl
  refine va_put (D := V.1) (ci := 7) (v := vi z) (ty := .int) (C := RX7) (T := TX7) (N := 34) (fs := obF V 7 76 (μ 76)) hX.1 hX.2.1 hX.2.2.2.2.1 inX7 tyX7 tyX7_ok nmX7 hX.2.2.2.1 hX.2.2.2.2.2.2.1 hP (wld_D hX.2.2.2.2.2.2.2.1 hX.2.2.2.2.2.2.2.2.1 μ) hS 76 (by rw [wld_at (okd_alen (k := 76) (by rw [ok76]; decide)).1, cel_obj ok76 (by decide)]) rfl 17 (by decide) (hX.2.2.2.2.1 _ tw_527) (fun _ h9 => h9) rfl (by decide +kernel) rfl rfl (Nat.le_of_ble_eq_true rfl) d (fun H1 locs1 hP1 _ hS1 => ?_)
  rw [wld_set (fun j' => if j' = 17 then z else μ 76 j') _ (by rw [cel_obj ok76 (by decide)]; rfl), mset_row] at hP1
  exact k H1 locs1 ls hP1 hS1 hl
theorem gf_X7_57 (hX : OkX V E RX7 cc n lvl) (d : decode cc pc = .ok (.getfield 57, 3))  (k : G V E μ (pc + 3) L (vr V 91 :: st)) : G V E μ pc L (vr V 76 :: st) := by
  intro H locs ls hP hS hl
  exact va_get (D := V.1) (ci := 7) (v := vr V 91) (C := RX7) (T := TX7) (N := 34) (fs := obF V 7 76 (μ 76)) hX.1 hX.2.1 hX.2.2.2.2.1 inX7 hX.2.2.2.1 hX.2.2.2.2.2.2.1 hP 76 (by rw [wld_at (okd_alen (k := 76) (by rw [ok76]; decide)).1, cel_obj ok76 (by decide)]) rfl 18 (by decide) (hX.2.2.2.2.1 _ tw_528) (fun _ h9 => h9) rfl d (k H locs ls hP hS hl)
theorem gf_X7_197 (hX : OkX V E RX7 cc n lvl) (d : decode cc pc = .ok (.getfield 197, 3))  (k : G V E μ (pc + 3) L (vi (μ 76 19) :: st)) : G V E μ pc L (vr V 76 :: st) := by
  intro H locs ls hP hS hl
  exact va_get (D := V.1) (ci := 7) (v := vi (μ 76 19)) (C := RX7) (T := TX7) (N := 34) (fs := obF V 7 76 (μ 76)) hX.1 hX.2.1 hX.2.2.2.2.1 inX7 hX.2.2.2.1 hX.2.2.2.2.2.2.1 hP 76 (by rw [wld_at (okd_alen (k := 76) (by rw [ok76]; decide)).1, cel_obj ok76 (by decide)]) rfl 19 (by decide) (hX.2.2.2.2.1 _ tw_529) (fun _ h9 => h9) rfl d (k H locs ls hP hS hl)
theorem pf_X7_197 (hX : OkX V E RX7 cc n lvl) (d : decode cc pc = .ok (.putfield 197, 3))  {z : Int}  (k : G V E (mset μ 76 19 z) (pc + 3) L st) : G V E μ pc L (vi z :: vr V 76 :: st) := by
  intro H locs ls hP hS hl
  refine va_put (D := V.1) (ci := 7) (v := vi z) (ty := .int) (C := RX7) (T := TX7) (N := 34) (fs := obF V 7 76 (μ 76)) hX.1 hX.2.1 hX.2.2.2.2.1 inX7 tyX7 tyX7_ok nmX7 hX.2.2.2.1 hX.2.2.2.2.2.2.1 hP (wld_D hX.2.2.2.2.2.2.2.1 hX.2.2.2.2.2.2.2.2.1 μ) hS 76 (by rw [wld_at (okd_alen (k := 76) (by rw [ok76]; decide)).1, cel_obj ok76 (by decide)]) rfl 19 (by decide) (hX.2.2.2.2.1 _ tw_529) (fun _ h9 => h9) rfl (by decide +kernel) rfl rfl (Nat.le_of_ble_eq_true rfl) d (fun H1 locs1 hP1 _ hS1 => ?_)
  rw [wld_set (fun j' => if j' = 19 then z else μ 76 j') _ (by rw [cel_obj ok76 (by decide)]; rfl), mset_row] at hP1
  exact k H1 locs1 ls hP1 hS1 hl
theorem gf_X7_138 (hX : OkX V E RX7 cc n lvl) (d : decode cc pc = .ok (.getfield 138, 3))  (k : G V E μ (pc + 3) L (vi (μ 76 20) :: st)) : G V E μ pc L (vr V 76 :: st) := by
  intro H locs ls hP hS hl
  exact va_get (D := V.1) (ci := 7) (v := vi (μ 76 20)) (C := RX7) (T := TX7) (N := 34) (fs := obF V 7 76 (μ 76)) hX.1 hX.2.1 hX.2.2.2.2.1 inX7 hX.2.2.2.1 hX.2.2.2.2.2.2.1 hP 76 (by rw [wld_at (okd_alen (k := 76) (by rw [ok76]; decide)).1, cel_obj ok76 (by decide)]) rfl 20 (by decide) (hX.2.2.2.2.1 _ tw_530) (fun _ h9 => h9) rfl d (k H locs ls hP hS hl)
theorem pf_X7_138 (hX : OkX V E RX7 cc n lvl) (d : decode cc pc = .ok (.putfield 138, 3))  {z : Int}  (k : G V E (mset μ 76 20 z) (pc + 3) L st) : G V E μ pc L (vi z :: vr V 76 :: st) := by
  intro H locs ls hP hS hl
  refine va_put (D := V.1) (ci := 7) (v := vi z) (ty := .int) (C := RX7) (T := TX7) (N := 34) (fs := obF V 7 76 (μ 76)) hX.1 hX.2.1 hX.2.2.2.2.1 inX7 tyX7 tyX7_ok nmX7 hX.2.2.2.1 hX.2.2.2.2.2.2.1 hP (wld_D hX.2.2.2.2.2.2.2.1 hX.2.2.2.2.2.2.2.2.1 μ) hS 76 (by rw [wld_at (okd_alen (k := 76) (by rw [ok76]; decide)).1, cel_obj ok76 (by decide)]) rfl 20 (by decide) (hX.2.2.2.2.1 _ tw_530) (fun _ h9 => h9) rfl (by decide +kernel) rfl rfl (Nat.le_of_ble_eq_true rfl) d (fun H1 locs1 hP1 _ hS1 => ?_)
  rw [wld_set (fun j' => if j' = 20 then z else μ 76 j') _ (by rw [cel_obj ok76 (by decide)]; rfl), mset_row] at hP1
  exact k H1 locs1 ls hP1 hS1 hl
theorem gf_X7_120 (hX : OkX V E RX7 cc n lvl) (d : decode cc pc = .ok (.getfield 120, 3))  (k : G V E μ (pc + 3) L (vi (μ 76 21) :: st)) : G V E μ pc L (vr V 76 :: st) := by
  intro H locs ls hP hS hl
  exact va_get (D := V.1) (ci := 7) (v := vi (μ 76 21)) (C := RX7) (T := TX7) (N := 34) (fs := obF V 7 76 (μ 76)) hX.1 hX.2.1 hX.2.2.2.2.1 inX7 hX.2.2.2.1 hX.2.2.2.2.2.2.1 hP 76 (by rw [wld_at (okd_alen (k := 76) (by rw [ok76]; decide)).1, cel_obj ok76 (by decide)]) rfl 21 (by decide) (hX.2.2.2.2.1 _ tw_531) (fun _ h9 => h9) rfl d (k H locs ls hP hS hl)
theorem pf_X7_120 (hX : OkX V E RX7 cc n lvl) (d : decode cc pc = .ok (.putfield 120, 3))  {z : Int}  (k : G V E (mset μ 76 21 z) (pc + 3) L st) : G V E μ pc L (vi z :: vr V 76 :: st) := by
  intro H locs ls hP hS hl
  refine va_put (D := V.1) (ci := 7) (v := vi z) (ty := .int) (C := RX7) (T := TX7) (N := 34) (fs := obF V 7 76 (μ 76)) hX.1 hX.2.1 hX.2.2.2.2.1 inX7 tyX7 tyX7_ok nmX7 hX.2.2.2.1 hX.2.2.2.2.2.2.1 hP (wld_D hX.2.2.2.2.2.2.2.1 hX.2.2.2.2.2.2.2.2.1 μ) hS 76 (by rw [wld_at (okd_alen (k := 76) (by rw [ok76]; decide)).1, cel_obj ok76 (by decide)]) rfl 21 (by decide) (hX.2.2.2.2.1 _ tw_531) (fun _ h9 => h9) rfl (by decide +kernel) rfl rfl (Nat.le_of_ble_eq_true rfl) d (fun H1 locs1 hP1 _ hS1 => ?_)
  rw [wld_set (fun j' => if j' = 21 then z else μ 76 j') _ (by rw [cel_obj ok76 (by decide)]; rfl), mset_row] at hP1
  exact k H1 locs1 ls hP1 hS1 hl
theorem gf_X7_60 (hX : OkX V E RX7 cc n lvl) (d : decode cc pc = .ok (.getfield 60, 3))  (k : G V E μ (pc + 3) L (vr V 92 :: st)) : G V E μ pc L (vr V 76 :: st) := by
  intro H locs ls hP hS hl
  exact va_get (D := V.1) (ci := 7) (v := vr V 92) (C := RX7) (T := TX7) (N := 34) (fs := obF V 7 76 (μ 76)) hX.1 hX.2.1 hX.2.2.2.2.1 inX7 hX.2.2.2.1 hX.2.2.2.2.2.2.1 hP 76 (by rw [wld_at (okd_alen (k := 76) (by rw [ok76]; decide)).1, cel_obj ok76 (by decide)]) rfl 22 (by decide) (hX.2.2.2.2.1 _ tw_532) (fun _ h9 => h9) rfl d (k H locs ls hP hS hl)
theorem gf_X7_63 (hX : OkX V E RX7 cc n lvl) (d : decode cc pc = .ok (.getfield 63, 3))  (k : G V E μ (pc + 3) L (vr V 93 :: st)) : G V E μ pc L (vr V 76 :: st) := by
  intro H locs ls hP hS hl
  exact va_get (D := V.1) (ci := 7) (v := vr V 93) (C := RX7) (T := TX7) (N := 34) (fs := obF V 7 76 (μ 76)) hX.1 hX.2.1 hX.2.2.2.2.1 inX7 hX.2.2.2.1 hX.2.2.2.2.2.2.1 hP 76 (by rw [wld_at (okd_alen (k := 76) (by rw [ok76]; decide)).1, cel_obj ok76 (by decide)]) rfl 23 (by decide) (hX.2.2.2.2.1 _ tw_533) (fun _ h9 => h9) rfl d (k H locs ls hP hS hl)
theorem gf_X7_66 (hX : OkX V E RX7 cc n lvl) (d : decode cc pc = .ok (.getfield 66, 3))  (k : G V E μ (pc + 3) L (vr V 94 :: st)) : G V E μ pc L (vr V 76 :: st) := by
  intro H locs ls hP hS hl
  exact va_get (D := V.1) (ci := 7) (v := vr V 94) (C := RX7) (T := TX7) (N := 34) (fs := obF V 7 76 (μ 76)) hX.1 hX.2.1 hX.2.2.2.2.1 inX7 hX.2.2.2.1 hX.2.2.2.2.2.2.1 hP 76 (by rw [wld_at (okd_alen (k := 76) (by rw [ok76]; decide)).1, cel_obj ok76 (by decide)]) rfl 24 (by decide) (hX.2.2.2.2.1 _ tw_534) (fun _ h9 => h9) rfl d (k H locs ls hP hS hl)
theorem gf_X7_69 (hX : OkX V E RX7 cc n lvl) (d : decode cc pc = .ok (.getfield 69, 3))  (k : G V E μ (pc + 3) L (vr V 95 :: st)) : G V E μ pc L (vr V 76 :: st) := by
  intro H locs ls hP hS hl
  exact va_get (D := V.1) (ci := 7) (v := vr V 95) (C := RX7) (T := TX7) (N := 34) (fs := obF V 7 76 (μ 76)) hX.1 hX.2.1 hX.2.2.2.2.1 inX7 hX.2.2.2.1 hX.2.2.2.2.2.2.1 hP 76 (by rw [wld_at (okd_alen (k := 76) (by rw [ok76]; decide)).1, cel_obj ok76 (by decide)]) rfl 25 (by decide) (hX.2.2.2.2.1 _ tw_535) (fun _ h9 => h9) rfl d (k H locs ls hP hS hl)
theorem gf_X7_159 (hX : OkX V E RX7 cc n lvl) (d : decode cc pc = .ok (.getfield 159, 3))  (k : G V E μ (pc + 3) L (vi (μ 76 26) :: st)) : G V E μ pc L (vr V 76 :: st) := by
  intro H locs ls hP hS hl
  exact va_get (D := V.1) (ci := 7) (v := vi (μ 76 26)) (C := RX7) (T := TX7) (N := 34) (fs := obF V 7 76 (μ 76)) hX.1 hX.2.1 hX.2.2.2.2.1 inX7 hX.2.2.2.1 hX.2.2.2.2.2.2.1 hP 76 (by rw [wld_at (okd_alen (k := 76) (by rw [ok76]; decide)).1, cel_obj ok76 (by decide)]) rfl 26 (by decide) (hX.2.2.2.2.1 _ tw_536) (fun _ h9 => h9) rfl d (k H locs ls hP hS hl)
theorem pf_X7_159 (hX : OkX V E RX7 cc n lvl) (d : decode cc pc = .ok (.putfield 159, 3))  {z : Int}  (k : G V E (mset μ 76 26 z) (pc + 3) L st) : G V E μ pc L (vi z :: vr V 76 :: st) := by
  intro H locs ls hP hS hl
  refine va_put (D := V.1) (ci := 7) (v := vi z) (ty := .int) (C := RX7) (T := TX7) (N := 34) (fs := obF V 7 76 (μ 76)) hX.1 hX.2.1 hX.2.2.2.2.1 inX7 tyX7 tyX7_ok nmX7 hX.2.2.2.1 hX.2.2.2.2.2.2.1 hP (wld_D hX.2.2.2.2.2.2.2.1 hX.2.2.2.2.2.2.2.2.1 μ) hS 76 (by rw [wld_at (okd_alen (k := 76) (by rw [ok76]; decide)).1, cel_obj ok76 (by decide)]) rfl 26 (by decide) (hX.2.2.2.2.1 _ tw_536) (fun _ h9 => h9) rfl (by decide +kernel) rfl rfl (Nat.le_of_ble_eq_true rfl) d (fun H1 locs1 hP1 _ hS1 => ?_)
  rw [wld_set (fun j' => if j' = 26 then z else μ 76 j') _ (by rw [cel_obj ok76 (by decide)]; rfl), mset_row] at hP1
  exact k H1 locs1 ls hP1 hS1 hl
theorem gf_X7_72 (hX : OkX V E RX7 cc n lvl) (d : decode cc pc = .ok (.getfield 72, 3))  (k : G V E μ (pc + 3) L (vr V 96 :: st)) : G V E μ pc L (vr V 76 :: st) := by
  intro H locs ls hP hS hl
  exact va_get (D := V.1) (ci := 7) (v := vr V 96) (C := RX7) (T := TX7) (N := 34) (fs := obF V 7 76 (μ 76)) hX.1 hX.2.1 hX.2.2.2.2.1 inX7 hX.2.2.2.1 hX.2.2.2.2.2.2.1 hP 76 (by rw [wld_at (okd_alen (k := 76) (by rw [ok76]; decide)).1, cel_obj ok76 (by decide)]) rfl 27 (by decide) (hX.2.2.2.2.1 _ tw_537) (fun _ h9 => h9) rfl d (k H locs ls hP hS hl)
theorem gf_X7_75 (hX : OkX V E RX7 cc n lvl) (d : decode cc pc = .ok (.getfield 75, 3))  (k : G V E μ (pc + 3) L (vr V 97 :: st)) : G V E μ pc L (vr V 76 :: st) := by
  intro H locs ls hP hS hl
  exact va_get (D := V.1) (ci := 7) (v := vr V 97) (C := RX7) (T := TX7) (N := 34) (fs := obF V 7 76 (μ 76)) hX.1 hX.2.1 hX.2.2.2.2.1 inX7 hX.2.2.2.1 hX.2.2.2.2.2.2.1 hP 76 (by rw [wld_at (okd_alen (k := 76) (by rw [ok76]; decide)).1, cel_obj ok76 (by decide)]) rfl 28 (by decide) (hX.2.2.2.2.1 _ tw_538) (fun _ h9 => h9) rfl d (k H locs ls hP hS hl)
theorem gf_X7_78 (hX : OkX V E RX7 cc n lvl) (d : decode cc pc = .ok (.getfield 78, 3))  (k : G V E μ (pc + 3) L (vr V 98 :: st)) : G V E μ pc L (vr V 76 :: st) := by
  intro H locs ls hP hS hl
  exact va_get (D := V.1) (ci := 7) (v := vr V 98) (C := RX7) (T := TX7) (N := 34) (fs := obF V 7 76 (μ 76)) hX.1 hX.2.1 hX.2.2.2.2.1 inX7 hX.2.2.2.1 hX.2.2.2.2.2.2.1 hP 76 (by rw [wld_at (okd_alen (k := 76) (by rw [ok76]; decide)).1, cel_obj ok76 (by decide)]) rfl 29 (by decide) (hX.2.2.2.2.1 _ tw_539) (fun _ h9 => h9) rfl d (k H locs ls hP hS hl)
theorem gf_X7_81 (hX : OkX V E RX7 cc n lvl) (d : decode cc pc = .ok (.getfield 81, 3))  (k : G V E μ (pc + 3) L (vr V 99 :: st)) : G V E μ pc L (vr V 76 :: st) := by
  intro H locs ls hP hS hl
  exact va_get (D := V.1) (ci := 7) (v := vr V 99) (C := RX7) (T := TX7) (N := 34) (fs := obF V 7 76 (μ 76)) hX.1 hX.2.1 hX.2.2.2.2.1 inX7 hX.2.2.2.1 hX.2.2.2.2.2.2.1 hP 76 (by rw [wld_at (okd_alen (k := 76) (by rw [ok76]; decide)).1, cel_obj ok76 (by decide)]) rfl 30 (by decide) (hX.2.2.2.2.1 _ tw_540) (fun _ h9 => h9) rfl d (k H locs ls hP hS hl)
theorem gf_X7_84 (hX : OkX V E RX7 cc n lvl) (d : decode cc pc = .ok (.getfield 84, 3))  (k : G V E μ (pc + 3) L (vr V 100 :: st)) : G V E μ pc L (vr V 76 :: st) := by
  intro H locs ls hP hS hl
  exact va_get (D := V.1) (ci := 7) (v := vr V 100) (C := RX7) (T := TX7) (N := 34) (fs := obF V 7 76 (μ 76)) hX.1 hX.2.1 hX.2.2.2.2.1 inX7 hX.2.2.2.1 hX.2.2.2.2.2.2.1 hP 76 (by rw [wld_at (okd_alen (k := 76) (by rw [ok76]; decide)).1, cel_obj ok76 (by decide)]) rfl 31 (by decide) (hX.2.2.2.2.1 _ tw_541) (fun _ h9 => h9) rfl d (k H locs ls hP hS hl)
theorem gf_X7_87 (hX : OkX V E RX7 cc n lvl) (d : decode cc pc = .ok (.getfield 87, 3))  (k : G V E μ (pc + 3) L (vr V 101 :: st)) : G V E μ pc L (vr V 76 :: st) := by
  intro H locs ls hP hS hl
  exact va_get (D := V.1) (ci := 7) (v := vr V 101) (C := RX7) (T := TX7) (N := 34) (fs := obF V 7 76 (μ 76)) hX.1 hX.2.1 hX.2.2.2.2.1 inX7 hX.2.2.2.1 hX.2.2.2.2.2.2.1 hP 76 (by rw [wld_at (okd_alen (k := 76) (by rw [ok76]; decide)).1, cel_obj ok76 (by decide)]) rfl 32 (by decide) (hX.2.2.2.2.1 _ tw_542) (fun _ h9 => h9) rfl d (k H locs ls hP hS hl)
theorem gf_X7_90 (hX : OkX V E RX7 cc n lvl) (d : decode cc pc = .ok (.getfield 90, 3))  (k : G V E μ (pc + 3) L (vr V 102 :: st)) : G V E μ pc L (vr V 76 :: st) := by
  intro H locs ls hP hS hl
  exact va_get (D := V.1) (ci := 7) (v := vr V 102) (C := RX7) (T := TX7) (N := 34) (fs := obF V 7 76 (μ 76)) hX.1 hX.2.1 hX.2.2.2.2.1 inX7 hX.2.2.2.1 hX.2.2.2.2.2.2.1 hP 76 (by rw [wld_at (okd_alen (k := 76) (by rw [ok76]; decide)).1, cel_obj ok76 (by decide)]) rfl 33 (by decide) (hX.2.2.2.2.1 _ tw_543) (fun _ h9 => h9) rfl d (k H locs ls hP hS hl)
end GF
section GC
variable {V : VX} {E : EX} {own : String} {cc : ByteArray} {n lvl pc : Nat} {μ : Mem} {L : List (Option Value)} {st : List Value}
def LkV (own : String) (idx : Nat) (y : MethodName) (cc : ByteArray) (n : Nat) (ret : Option FieldType) (na : Nat) : Prop :=
  Cond.methodLink own idx y ∈ tbl ∧ Cond.instanceMethod y ∈ tbl ∧ Cond.selects y.cls y y ∈ tbl ∧ Cond.initialized y.cls ∈ tbl ∧ Cond.code y cc n ret ∈ tbl ∧ y.cls ≠ "java/lang/invoke/MethodHandle" ∧ y.cls ≠ "java/lang/invoke/VarHandle" ∧ (parseMethodDescriptor y.desc).map (fun d => d.parameters.length) = some na
def LkS (own : String) (idx : Nat) (y : MethodName) (cc : ByteArray) (n : Nat) (ret : Option FieldType) (na : Nat) : Prop :=
  Cond.methodLink own idx y ∈ tbl ∧ Cond.static y ∈ tbl ∧ Cond.initialized own ∈ tbl ∧ Cond.code y cc n ret ∈ tbl ∧ y.cls = own ∧ y.cls ≠ "java/lang/invoke/MethodHandle" ∧ y.cls ≠ "java/lang/invoke/VarHandle" ∧ (parseMethodDescriptor y.desc).map (fun d => d.parameters.length) = some na
theorem PUw_blind (as : List Value) (V : VX) (μ : Mem) : FrameBlind (va_Pc as (PUw V μ)) := fun a U g mk h => ⟨h.1, h.2.1, va_K.moved (u := U) (U := U.calling g mk a) (Vm.Alike.refl U.vm) h.2.2.1, fun w hw => va_Nw.same (u := U) (U := U.calling g mk a) (by
  have := (List.mem_filter.mp hw).2
  cases w <;> first | rfl | (exact absurd (show false = true from this) (by decide))) rfl (h.2.2.2 w hw)⟩
theorem nws_warm {s U : State} (hW : s.WarmedH U.vm) (h : ∀ w ∈ nws, va_Nw w s) : ∀ w ∈ nws, va_Nw w U := fun w hw => by
  have h2 := (List.mem_filter.mp hw).2
  have h3 := h w hw
  match w, h2, h3 with
  | .fieldLinkNest .., _, h3 => exact va_Nw.warmF hW h3
  | .methodLinkNest .., _, h3 => exact va_Nw.warmM hW h3
theorem tbl_code {y : MethodName} {cc : ByteArray} {n : Nat} {ret : Option FieldType} (h : Cond.code y cc n ret ∈ tbl) : GoodIn tbl (Cond.code y cc n ret :: tbl) := fun w hw => (List.mem_cons.mp hw).elim (fun e => by subst e; exact tbl_good _ h) (fun e => tbl_good _ e)
theorem g_after {p : Program} {l : Launch} {e : Env} {R : Room} {s : State} {m : MethodId} {args : Array Value} {below : List Frame} {meth : Method} {c : Code} {H : Heap} {locs : List Loc} {cells slots : Nat} {Q : State → Prop} {ls : Array Slot} {rest st0 : List Value} {a : Array Value} {A0 : Nat → Prop} {H0 : Heap} {post : Option Value → Mem → Prop}
    (hr : va_Run p l e R s m args below meth c H locs cells slots 0 0 (F0 m pc ls st0) rest (QUw V post a) (AadV V)) (hS : va_S A0 H0 H locs) (hA : ∀ q, AadV V q → A0 q)
    (kk : ∀ (r : Option Value) (μ' : Mem) (H1 : Heap) (locs1 : List Loc), post r μ' → va_P V.1 vwCl (wld V μ') H1 → va_S A0 H0 H1 locs1 → W p l e R s m args below meth c H1 locs1 cells slots Q (F0 m (pc + 3) ls (r.toList ++ rest))) : W p l e R s m args below meth c H locs cells slots Q (F0 m pc ls st0) := by
  intro T hT X
  obtain ⟨v, st₀, t, T', L, h0, X', hL, e1, e2, ⟨⟨r, μ', hv, hp, hPw⟩, hz, hk⟩, st⟩ := hr T hT X
  cases hv
  rw [h0] at hz hk
  obtain ⟨t2, a1, b1⟩ := kk v μ' T'.heap (locs ++ L) hp (by rw [e1]; exact hPw)
    ⟨Nat.le_trans hS.1 (by rw [e1]; exact hz), fun q h1 h2 => by rw [e1, hk q (Nat.lt_of_lt_of_le h1 hS.1) (fun z => h2 (hA q z))]; exact hS.2.1 q h1 h2, fun q hq => by
      rcases List.mem_append.mp hq with h | h
      · exact hS.2.2 q h
      · exact hA _ (hL q h)⟩ T' rfl X'
  exact ⟨t2, st t2 a1, b1⟩
theorem AadV_in {A : Nat → Prop} (h : ∀ k, k < 103 → A (V.2.1 k)) : ∀ q, AadV V q → A q := fun q hq => by
  obtain ⟨k, hk, rfl⟩ := hq
  exact h k hk
set_option maxHeartbeats 2000000 in
theorem g_callV {y : MethodName} {cc' : ByteArray} {n' lvl' idx na : Nat} {ret' : Option FieldType} {post : Option Value → Mem → Prop} {as : List Value} {k0 c0 : Nat} {st0 : List Value} (hX : OkX V E own cc n lvl) (lk : LkV own idx y cc' n' ret' na) (d : decode cc pc = .ok (.invokevirtual idx, 3))
    (hk : okd k0 = c0) (hc : ∃ q : vw_C, vwCl[c0]? = some q ∧ q.1 = y.cls) (hC : Ct E.1.2.1 y cc' n' ret' lvl' V (vr V k0 :: as) μ post) (hlv : lvl' < lvl) (hn' : n' ≤ 21) (hna : as.length = na) (hLn : L.length = n) (hst : st0 = as.reverse ++ vr V k0 :: st) (hcat : (st.map fun v => v.category).sum ≤ 8)
    (k : ∀ r μ', post r μ' → G V E μ' (pc + 3) L (r.toList ++ st)) : G V E μ pc L st0 := by
  intro H locs ls hP hS hl
  obtain ⟨l1, l2, l3, l4, l5, l6, l7, l8⟩ := lk
  have hts := hX.2.2.2.2.1
  have hK := hX.2.2.2.2.2.2.1
  have hfr : lvl ≤ E.1.2.2.2.frames := hX.2.2.2.2.2.2.2.2.2.1
  have hlo : 40 * lvl ≤ E.1.2.2.2.locals := hX.2.2.2.2.2.2.2.2.2.2.1
  have hcc : E.2.2.2.1.1 ≤ E.1.2.2.2.cells := hX.2.2.2.2.2.2.2.2.2.2.2.1
  have hss : E.2.2.2.1.2 ≤ E.1.2.2.2.slots := hX.2.2.2.2.2.2.2.2.2.2.2.2
  obtain ⟨q, hq1, hq2⟩ := hc
  have hc9 : c0 < 9 := by
    have := (List.getElem?_eq_some_iff.mp hq1).1
    simp at this; omega
  have hwk : (wld V μ)[k0]? = some (V.2.1 k0, .inr (c0, obF V c0 k0 (μ k0))) := by
    rw [wld_at (okd_alen (k := k0) (by rw [hk]; exact hc9)).1, cel_obj hk hc9]
  refine g_after (post := post) (hr := va_runV (As := as) (rest := st) ⟨hX.1, hX.2.1, hX.2.2.1, hX.2.2.2.1, hts⟩ hC ⟨callB_of na hts (tbl_code l5) rfl rfl rfl (hts _ l4) (hts _ l1) ⟨l6, l7, l8⟩ ⟨by show lvl' + 1 ≤ _; omega, by show 8 + (n' + 11) + 40 * lvl' ≤ _; omega⟩, hts _ l2, hts _ l3⟩
    ⟨PUw_blind _ V μ, ?_, fun U hU hW => ⟨rfl, by rw [hU]; exact hP, va_K.moved hW.alike hK, nws_warm hW hX.2.2.2.2.2.1⟩⟩ rfl hna (by rw [LV.size hl]; exact hLn) hst (by show 2 * 0 + _ ≤ 8; omega) d ⟨hcc, hss⟩) hS (AadV_in hX.2.2.2.2.2.2.2.2.1) (fun r μ' H1 locs1 hp hP1 hS1 => k r μ' hp H1 locs1 ls hP1 hS1 hl)
  rw [← hq2]
  exact va_recv hK hP hq1 hwk
set_option maxHeartbeats 2000000 in
theorem g_callS {y : MethodName} {cc' : ByteArray} {n' lvl' idx na : Nat} {ret' : Option FieldType} {post : Option Value → Mem → Prop} {as : List Value} {st0 : List Value} (hX : OkX V E own cc n lvl) (lk : LkS own idx y cc' n' ret' na) (d : decode cc pc = .ok (.invokestatic idx, 3))
    (hC : Ct E.1.2.1 y cc' n' ret' lvl' V as μ post) (hlv : lvl' < lvl) (hn' : n' ≤ 21) (hna : as.length = na) (hLn : L.length = n) (hst : st0 = as.reverse ++ st) (hcat : (st.map fun v => v.category).sum ≤ 8)
    (k : ∀ r μ', post r μ' → G V E μ' (pc + 3) L (r.toList ++ st)) : G V E μ pc L st0 := by
  intro H locs ls hP hS hl
  obtain ⟨l1, l2, l4, l5, l9, l6, l7, l8⟩ := lk
  have hts := hX.2.2.2.2.1
  have hK := hX.2.2.2.2.2.2.1
  have hfr : lvl ≤ E.1.2.2.2.frames := hX.2.2.2.2.2.2.2.2.2.1
  have hlo : 40 * lvl ≤ E.1.2.2.2.locals := hX.2.2.2.2.2.2.2.2.2.2.1
  have hcc : E.2.2.2.1.1 ≤ E.1.2.2.2.cells := hX.2.2.2.2.2.2.2.2.2.2.2.1
  have hss : E.2.2.2.1.2 ≤ E.1.2.2.2.slots := hX.2.2.2.2.2.2.2.2.2.2.2.2
  exact g_after (post := post) (hr := va_runS (As := as) (rest := st) ⟨hX.1, hX.2.1, hX.2.2.1, hX.2.2.2.1, hts⟩ hC ⟨callB_of na hts (tbl_code l5) rfl rfl rfl (by rw [l9]; exact hts _ l4) (hts _ l1) ⟨l6, l7, l8⟩ ⟨by show lvl' + 1 ≤ _; omega, by show 8 + (n' + 11) + 40 * lvl' ≤ _; omega⟩, hts _ l2⟩
    ⟨PUw_blind _ V μ, fun U hU hW => ⟨rfl, by rw [hU]; exact hP, va_K.moved hW.alike hK, nws_warm hW hX.2.2.2.2.2.1⟩⟩ rfl hna (by rw [LV.size hl]; exact hLn) hst (by show 2 * 0 + _ ≤ 8; omega) d ⟨hcc, hss⟩) hS (AadV_in hX.2.2.2.2.2.2.2.2.1) (fun r μ' H1 locs1 hp hP1 hS1 => k r μ' hp H1 locs1 ls hP1 hS1 hl)
theorem g_mmax {a b : Int} (hX : OkX V E RX6 cc n lvl) (hLn : L.length = n) (h1 : 1 ≤ lvl) (d : decode cc pc = .ok (.invokestatic 121, 3)) (ha : in32 a) (hb : in32 b) (hcat : (st.map fun v => v.category).sum ≤ 8) (k : G V E μ (pc + 3) L (vi (max a b) :: st)) : G V E μ pc L (vi b :: vi a :: st) := by
  intro H locs ls hP hS hl
  have hts := hX.2.2.2.2.1
  have hfr : lvl ≤ E.1.2.2.2.frames := hX.2.2.2.2.2.2.2.2.2.1
  have hlo : 40 * lvl ≤ E.1.2.2.2.locals := hX.2.2.2.2.2.2.2.2.2.2.1
  refine va_mmax hX.1 hX.2.1 (by rw [hX.2.2.1, LV.size hl, hLn]) hX.2.2.2.1 (hts _ tw_308) (hts _ tw_309) (hts _ tw_9) (hts _ tw_310) (by omega) (by omega) hX.2.2.2.2.2.2.2.2.2.2.2.1 hX.2.2.2.2.2.2.2.2.2.2.2.2 d ?_
  have e : (if Int32.ofInt a < Int32.ofInt b then Int32.ofInt b else Int32.ofInt a) = Int32.ofInt (max a b) := by
    by_cases h : a < b
    · rw [if_pos ((i_lt ha hb).mpr h), Int.max_eq_right (by omega)]
    · rw [if_neg (fun q => h ((i_lt ha hb).mp q)), Int.max_eq_left (by omega)]
  rw [e]
  exact k H locs ls hP hS hl
/-! ends -/
theorem g_iret {post : Option Value → Mem → Prop} {z : Int} (hX : OkX V E own cc n lvl) (hR : RtX V E (some .int) post) (d : decode cc pc = .ok (.ireturn, 1)) (hp : post (some (vi z)) μ) : G V E μ pc L [vi z] := by
  intro H locs ls hP hS hl
  obtain ⟨h1, h2, h3, h4, h5, h6⟩ := hR
  rw [h3, h4, h6]
  rw [h5] at hS
  exact W.iret hX.1 hX.2.1 h1 (fun t ht hW => ⟨⟨_, μ, rfl, hp, by rw [ht]; exact hP⟩, hS.F ht⟩) hS.2.2 d h2
theorem g_zret {post : Option Value → Mem → Prop} {z : Int} (hX : OkX V E own cc n lvl) (hR : RtX V E (some .boolean) post) (d : decode cc pc = .ok (.ireturn, 1)) (hz : z = 0 ∨ z = 1) (hp : post (some (vi z)) μ) : G V E μ pc L [vi z] := by
  intro H locs ls hP hS hl
  obtain ⟨h1, h2, h3, h4, h5, h6⟩ := hR
  rw [h3, h4, h6]
  rw [h5] at hS
  exact W.zret hX.1 hX.2.1 h1 (by rcases hz with rfl | rfl <;> rfl) (fun t ht hW => ⟨⟨_, μ, rfl, hp, by rw [ht]; exact hP⟩, hS.F ht⟩) hS.2.2 d h2
theorem g_vret {post : Option Value → Mem → Prop} (hX : OkX V E own cc n lvl) (hR : RtX V E none post) (d : decode cc pc = .ok (.return_, 1)) (hp : post none μ) : G V E μ pc L [] := by
  intro H locs ls hP hS hl
  obtain ⟨h1, h2, h3, h4, h5, h6⟩ := hR
  rw [h3, h4, h6]
  rw [h5] at hS
  exact W.vret hX.1 hX.2.1 h1 (fun t ht hW => ⟨⟨_, μ, rfl, hp, by rw [ht]; exact hP⟩, hS.F ht⟩) hS.2.2 d h2
theorem g_aret {post : Option Value → Mem → Prop} {C : String} {r : Option Nat} (hX : OkX V E own cc n lvl) (hR : RtX V E (some (.object C)) post) (d : decode cc pc = .ok (.areturn, 1)) {v : Value} (hv : v = vrf V r) (hp : post (some (vrf V r)) μ) : G V E μ pc L [v] := by
  subst hv
  intro H locs ls hP hS hl
  obtain ⟨h1, h2, h3, h4, h5, h6⟩ := hR
  rw [h3, h4, h6]
  rw [h5] at hS
  exact W.aret hX.1 hX.2.1 h1 (Or.inl ⟨C, rfl⟩) (by cases r with
    | none => exact Or.inl rfl
    | some k => exact Or.inr ⟨_, rfl⟩) (fun t ht hW => ⟨⟨_, μ, rfl, hp, by rw [ht]; exact hP⟩, hS.F ht⟩) hS.2.2 d h2
end GC
theorem lk_L_13 : LkV RL 13 yX6_part cX6_part 4 (some .int) 3 := ⟨tw_197, tw_198, tw_199, tw_1, tw_200, by decide +kernel, by decide +kernel, by decide +kernel⟩
theorem lk_X6_55 : LkS RX6 55 yX6_areMeasures cX6_areMeasures 3 (some .boolean) 3 := ⟨tw_201, tw_202, tw_1, tw_203, rfl, by decide +kernel, by decide +kernel, by decide +kernel⟩
theorem lk_X6_62 : LkV RX6 62 yX6_draw cX6_draw 7 (some .int) 4 := ⟨tw_204, tw_206, ts_0, tw_1, tw_207, by decide +kernel, by decide +kernel, by decide +kernel⟩
theorem lk_X6_66 : LkV RX6 66 yX6_partOf cX6_partOf 2 (some (.object "StoneBeds$Part")) 1 := ⟨tw_208, tw_210, ts_1, tw_1, tw_211, by decide +kernel, by decide +kernel, by decide +kernel⟩
theorem lk_X6_233 : LkV RX6 233 yX4_measure cX4_measure 4 none 3 := ⟨tw_212, tw_213, tw_214, tw_6, tw_215, by decide +kernel, by decide +kernel, by decide +kernel⟩
theorem lk_L_18 : LkV RL 18 yX6_need cX6_need 5 (some .int) 2 := ⟨tw_216, tw_217, tw_218, tw_1, tw_219, by decide +kernel, by decide +kernel, by decide +kernel⟩
theorem lk_L_23 : LkV RL 23 yX6_casts cX6_casts 7 (some .int) 3 := ⟨tw_220, tw_221, tw_222, tw_1, tw_223, by decide +kernel, by decide +kernel, by decide +kernel⟩
theorem lk_X6_73 : LkS RX6 73 yX6_isDrawn cX6_isDrawn 1 (some .boolean) 1 := ⟨tw_224, tw_225, tw_1, tw_226, rfl, by decide +kernel, by decide +kernel, by decide +kernel⟩
theorem lk_X6_77 : LkV RX6 77 yX6_givePacker cX6_givePacker 6 none 3 := ⟨tw_227, tw_229, ts_2, tw_1, tw_230, by decide +kernel, by decide +kernel, by decide +kernel⟩
theorem lk_X6_244 : LkV RX6 244 yX3_clear cX3_clear 1 none 0 := ⟨tw_231, tw_232, tw_233, tw_3, tw_234, by decide +kernel, by decide +kernel, by decide +kernel⟩
theorem lk_X6_245 : LkV RX6 245 yX3_add cX3_add 4 none 1 := ⟨tw_235, tw_236, tw_237, tw_3, tw_238, by decide +kernel, by decide +kernel, by decide +kernel⟩
theorem lk_X6_81 : LkV RX6 81 yX3_fewestCasts cX3_fewestCasts 4 (some .int) 0 := ⟨tw_239, tw_240, tw_241, tw_3, tw_242, by decide +kernel, by decide +kernel, by decide +kernel⟩
theorem lk_X3_40 : LkV RX3 40 yX3_plainCasts cX3_plainCasts 5 (some .int) 0 := ⟨tw_243, tw_244, tw_245, tw_3, tw_246, by decide +kernel, by decide +kernel, by decide +kernel⟩
theorem lk_X3_25 : LkV RX3 25 yX3_sizeOf cX3_sizeOf 2 (some .int) 1 := ⟨tw_247, tw_249, ts_3, tw_3, tw_250, by decide +kernel, by decide +kernel, by decide +kernel⟩
theorem lk_X3_29 : LkV RX3 29 yX3_roomOn cX3_roomOn 2 (some .int) 1 := ⟨tw_251, tw_253, ts_4, tw_3, tw_254, by decide +kernel, by decide +kernel, by decide +kernel⟩
theorem lk_X3_32 : LkV RX3 32 yX3_empty cX3_empty 2 none 1 := ⟨tw_255, tw_257, ts_5, tw_3, tw_258, by decide +kernel, by decide +kernel, by decide +kernel⟩
theorem lk_X3_36 : LkV RX3 36 yX3_fill cX3_fill 3 none 2 := ⟨tw_259, tw_261, ts_6, tw_3, tw_262, by decide +kernel, by decide +kernel, by decide +kernel⟩
theorem lk_X3_44 : LkV RX3 44 yX3_packs cX3_packs 8 (some .boolean) 3 := ⟨tw_263, tw_265, ts_7, tw_3, tw_266, by decide +kernel, by decide +kernel, by decide +kernel⟩
theorem lk_X3_48 : LkV RX3 48 yX3_packsOn cX3_packsOn 9 (some .boolean) 4 := ⟨tw_267, tw_269, ts_8, tw_3, tw_270, by decide +kernel, by decide +kernel, by decide +kernel⟩
theorem lk_X6_85 : LkV RX6 85 yX3_plainCasts cX3_plainCasts 5 (some .int) 0 := ⟨tw_271, tw_244, tw_245, tw_3, tw_246, by decide +kernel, by decide +kernel, by decide +kernel⟩
theorem lk_L_27 : LkV RL 27 yX6_cast cX6_cast 7 (some .int) 3 := ⟨tw_272, tw_273, tw_274, tw_1, tw_275, by decide +kernel, by decide +kernel, by decide +kernel⟩
theorem lk_X6_88 : LkV RX6 88 yX6_bedOf cX6_bedOf 2 (some (.object "StoneBeds$Bed")) 1 := ⟨tw_276, tw_278, ts_9, tw_1, tw_279, by decide +kernel, by decide +kernel, by decide +kernel⟩
theorem lk_X6_92 : LkV RX6 92 yX6_areParts cX6_areParts 4 (some .boolean) 2 := ⟨tw_280, tw_282, ts_10, tw_1, tw_283, by decide +kernel, by decide +kernel, by decide +kernel⟩
theorem lk_X6_101 : LkS RX6 101 yX6_hasBit cX6_hasBit 2 (some .boolean) 2 := ⟨tw_284, tw_285, tw_1, tw_286, rfl, by decide +kernel, by decide +kernel, by decide +kernel⟩
theorem lk_X6_98 : LkV RX6 98 yX6_areDrawnAndFit cX6_areDrawnAndFit 7 (some .boolean) 2 := ⟨tw_287, tw_289, ts_11, tw_1, tw_290, by decide +kernel, by decide +kernel, by decide +kernel⟩
theorem lk_X6_104 : LkV RX6 104 yX4_isNow cX4_isNow 3 none 2 := ⟨tw_291, tw_292, tw_293, tw_6, tw_294, by decide +kernel, by decide +kernel, by decide +kernel⟩
theorem lk_X6_114 : LkV RX6 114 yX0_take cX0_take 3 none 2 := ⟨tw_295, tw_296, tw_297, tw_7, tw_298, by decide +kernel, by decide +kernel, by decide +kernel⟩
theorem lk_L_31 : LkV RL 31 yX6_warmth cX6_warmth 3 (some .int) 1 := ⟨tw_299, tw_300, tw_301, tw_1, tw_302, by decide +kernel, by decide +kernel, by decide +kernel⟩
theorem lk_L_36 : LkV RL 36 yX6_hours cX6_hours 5 (some .int) 1 := ⟨tw_303, tw_304, tw_305, tw_1, tw_306, by decide +kernel, by decide +kernel, by decide +kernel⟩
theorem lk_L_40 : LkV RL 40 yX6_letGo cX6_letGo 6 (some .int) 1 := ⟨tw_311, tw_312, tw_313, tw_1, tw_314, by decide +kernel, by decide +kernel, by decide +kernel⟩
theorem lk_X6_139 : LkS RX6 139 yX6_camberOf cX6_camberOf 3 (some .int) 2 := ⟨tw_315, tw_316, tw_1, tw_317, rfl, by decide +kernel, by decide +kernel, by decide +kernel⟩
theorem lk_X6_150 : LkV RX6 150 yX4_isStruck cX4_isStruck 1 none 0 := ⟨tw_318, tw_319, tw_320, tw_6, tw_321, by decide +kernel, by decide +kernel, by decide +kernel⟩
theorem lk_X4_27 : LkV RX4 27 yX4_isNow cX4_isNow 3 none 2 := ⟨tw_322, tw_292, tw_293, tw_6, tw_294, by decide +kernel, by decide +kernel, by decide +kernel⟩
theorem lk_X6_153 : LkV RX6 153 yX0_clear cX0_clear 1 none 0 := ⟨tw_323, tw_324, tw_325, tw_7, tw_326, by decide +kernel, by decide +kernel, by decide +kernel⟩
theorem lk_L_44 : LkV RL 44 yX6_stack cX6_stack 5 (some .int) 2 := ⟨tw_327, tw_328, tw_329, tw_1, tw_330, by decide +kernel, by decide +kernel, by decide +kernel⟩
theorem lk_X6_156 : LkV RX6 156 yX6_stackOf cX6_stackOf 2 (some (.object "StoneBeds$Pile")) 1 := ⟨tw_331, tw_333, ts_12, tw_1, tw_334, by decide +kernel, by decide +kernel, by decide +kernel⟩
theorem lk_X6_160 : LkV RX6 160 yX5_hasRoom cX5_hasRoom 1 (some .boolean) 0 := ⟨tw_335, tw_336, tw_337, tw_5, tw_338, by decide +kernel, by decide +kernel, by decide +kernel⟩
theorem lk_X6_164 : LkV RX6 164 yX5_put cX5_put 2 none 1 := ⟨tw_339, tw_340, tw_341, tw_5, tw_342, by decide +kernel, by decide +kernel, by decide +kernel⟩
theorem lk_L_48 : LkV RL 48 yX6_move cX6_move 7 (some .int) 2 := ⟨tw_343, tw_344, tw_345, tw_1, tw_346, by decide +kernel, by decide +kernel, by decide +kernel⟩
theorem lk_X6_171 : LkV RX6 171 yX5_top cX5_top 1 (some .int) 0 := ⟨tw_347, tw_348, tw_349, tw_5, tw_350, by decide +kernel, by decide +kernel, by decide +kernel⟩
theorem lk_X5_19 : LkV RX5 19 yX5_from cX5_from 2 (some .int) 1 := ⟨tw_351, tw_352, tw_353, tw_5, tw_354, by decide +kernel, by decide +kernel, by decide +kernel⟩
theorem lk_X6_174 : LkV RX6 174 yX5_takeOff cX5_takeOff 2 (some .int) 0 := ⟨tw_355, tw_356, tw_357, tw_5, tw_358, by decide +kernel, by decide +kernel, by decide +kernel⟩
theorem lk_X5_23 : LkV RX5 23 yX5_top cX5_top 1 (some .int) 0 := ⟨tw_359, tw_348, tw_349, tw_5, tw_350, by decide +kernel, by decide +kernel, by decide +kernel⟩
theorem lk_X6_177 : LkV RX6 177 yX6_strikeTops cX6_strikeTops 4 none 1 := ⟨tw_360, tw_362, ts_13, tw_1, tw_363, by decide +kernel, by decide +kernel, by decide +kernel⟩
theorem lk_L_54 : LkV RL 54 yX6_diggings cX6_diggings 6 (some .int) 2 := ⟨tw_364, tw_365, tw_366, tw_1, tw_367, by decide +kernel, by decide +kernel, by decide +kernel⟩
theorem lk_X6_181 : LkV RX6 181 yX1_clear cX1_clear 2 none 0 := ⟨tw_368, tw_369, tw_370, tw_4, tw_371, by decide +kernel, by decide +kernel, by decide +kernel⟩
theorem lk_X6_182 : LkS RX6 182 yX6_ordered cX6_ordered 3 (some .int) 2 := ⟨tw_372, tw_373, tw_1, tw_374, rfl, by decide +kernel, by decide +kernel, by decide +kernel⟩
theorem lk_X6_186 : LkV RX6 186 yX1_wants cX1_wants 2 (some .boolean) 1 := ⟨tw_375, tw_376, tw_377, tw_4, tw_378, by decide +kernel, by decide +kernel, by decide +kernel⟩
theorem lk_X6_190 : LkV RX6 190 yX6_countWhere cX6_countWhere 5 (some .int) 1 := ⟨tw_379, tw_381, ts_14, tw_1, tw_382, by decide +kernel, by decide +kernel, by decide +kernel⟩
theorem lk_X6_194 : LkV RX6 194 yX1_copyStack cX1_copyStack 6 none 2 := ⟨tw_383, tw_384, tw_385, tw_4, tw_386, by decide +kernel, by decide +kernel, by decide +kernel⟩
theorem lk_X1_29 : LkV RX1 29 yX1_pileOf cX1_pileOf 2 (some (.object "StoneBeds$Pile")) 1 := ⟨tw_387, tw_389, ts_15, tw_4, tw_390, by decide +kernel, by decide +kernel, by decide +kernel⟩
theorem lk_X1_33 : LkV RX1 33 yX5_clear cX5_clear 1 none 0 := ⟨tw_391, tw_392, tw_393, tw_5, tw_394, by decide +kernel, by decide +kernel, by decide +kernel⟩
theorem lk_X1_39 : LkV RX1 39 yX5_from cX5_from 2 (some .int) 1 := ⟨tw_395, tw_352, tw_353, tw_5, tw_354, by decide +kernel, by decide +kernel, by decide +kernel⟩
theorem lk_X1_43 : LkV RX1 43 yX5_put cX5_put 2 none 1 := ⟨tw_396, tw_340, tw_341, tw_5, tw_342, by decide +kernel, by decide +kernel, by decide +kernel⟩
theorem lk_X6_198 : LkV RX6 198 yX1_fewestMoves cX1_fewestMoves 2 (some .int) 0 := ⟨tw_397, tw_398, tw_399, tw_4, tw_400, by decide +kernel, by decide +kernel, by decide +kernel⟩
theorem lk_X1_47 : LkV RX1 47 yX1_mustMove cX1_mustMove 3 (some .int) 0 := ⟨tw_401, tw_403, ts_16, tw_4, tw_404, by decide +kernel, by decide +kernel, by decide +kernel⟩
theorem lk_X1_81 : LkS RX1 81 yX1_blockingOn cX1_blockingOn 5 (some .int) 1 := ⟨tw_405, tw_406, tw_4, tw_407, rfl, by decide +kernel, by decide +kernel, by decide +kernel⟩
theorem lk_X1_51 : LkV RX1 51 yX1_reaches cX1_reaches 5 (some .boolean) 2 := ⟨tw_408, tw_410, ts_17, tw_4, tw_411, by decide +kernel, by decide +kernel, by decide +kernel⟩
theorem lk_X1_55 : LkV RX1 55 yX1_takes cX1_takes 4 (some .boolean) 1 := ⟨tw_412, tw_414, ts_18, tw_4, tw_415, by decide +kernel, by decide +kernel, by decide +kernel⟩
theorem lk_X1_65 : LkV RX1 65 yX1_pileWith cX1_pileWith 4 (some .int) 1 := ⟨tw_416, tw_418, ts_19, tw_4, tw_419, by decide +kernel, by decide +kernel, by decide +kernel⟩
theorem lk_X1_78 : LkV RX1 78 yX5_holds cX5_holds 3 (some .boolean) 1 := ⟨tw_420, tw_421, tw_422, tw_5, tw_423, by decide +kernel, by decide +kernel, by decide +kernel⟩
theorem lk_X1_68 : LkV RX1 68 yX5_top cX5_top 1 (some .int) 0 := ⟨tw_424, tw_348, tw_349, tw_5, tw_350, by decide +kernel, by decide +kernel, by decide +kernel⟩
theorem lk_X1_71 : LkV RX1 71 yX5_takeOff cX5_takeOff 2 (some .int) 0 := ⟨tw_425, tw_356, tw_357, tw_5, tw_358, by decide +kernel, by decide +kernel, by decide +kernel⟩
theorem lk_X1_59 : LkV RX1 59 yX1_digs cX1_digs 8 (some .boolean) 2 := ⟨tw_426, tw_428, ts_20, tw_4, tw_429, by decide +kernel, by decide +kernel, by decide +kernel⟩
theorem lk_X1_74 : LkV RX1 74 yX5_hasRoom cX5_hasRoom 1 (some .boolean) 0 := ⟨tw_430, tw_336, tw_337, tw_5, tw_338, by decide +kernel, by decide +kernel, by decide +kernel⟩
theorem lk_X1_62 : LkV RX1 62 yX1_putBack cX1_putBack 3 none 1 := ⟨tw_431, tw_433, ts_21, tw_4, tw_434, by decide +kernel, by decide +kernel, by decide +kernel⟩
theorem lk_L_59 : LkV RL 59 yX6_load cX6_load 5 (some .int) 1 := ⟨tw_435, tw_436, tw_437, tw_1, tw_438, by decide +kernel, by decide +kernel, by decide +kernel⟩
theorem lk_X6_201 : LkV RX6 201 yX2_hasPlace cX2_hasPlace 1 (some .boolean) 0 := ⟨tw_439, tw_440, tw_441, tw_2, tw_442, by decide +kernel, by decide +kernel, by decide +kernel⟩
theorem lk_X6_207 : LkV RX6 207 yX2_bears cX2_bears 2 (some .boolean) 1 := ⟨tw_443, tw_444, tw_445, tw_2, tw_446, by decide +kernel, by decide +kernel, by decide +kernel⟩
theorem lk_X2_25 : LkV RX2 25 yX2_frontShare cX2_frontShare 1 (some .int) 0 := ⟨tw_447, tw_449, ts_22, tw_2, tw_450, by decide +kernel, by decide +kernel, by decide +kernel⟩
theorem lk_X2_32 : LkV RX2 32 yX2_rearShare cX2_rearShare 1 (some .int) 0 := ⟨tw_451, tw_453, ts_23, tw_2, tw_454, by decide +kernel, by decide +kernel, by decide +kernel⟩
theorem lk_X6_210 : LkV RX6 210 yX2_take cX2_take 4 (some .int) 2 := ⟨tw_455, tw_456, tw_457, tw_2, tw_458, by decide +kernel, by decide +kernel, by decide +kernel⟩
theorem lk_L_63 : LkV RL 63 yX6_go cX6_go 4 (some .int) 0 := ⟨tw_459, tw_460, tw_461, tw_1, tw_462, by decide +kernel, by decide +kernel, by decide +kernel⟩
theorem lk_X6_213 : LkV RX6 213 yX2_partOn cX2_partOn 2 (some .int) 1 := ⟨tw_463, tw_464, tw_465, tw_2, tw_466, by decide +kernel, by decide +kernel, by decide +kernel⟩
theorem lk_X6_219 : LkV RX6 219 yX2_clear cX2_clear 1 none 0 := ⟨tw_467, tw_468, tw_469, tw_2, tw_470, by decide +kernel, by decide +kernel, by decide +kernel⟩
theorem lk_L_68 : LkV RL 68 yX6_lorry cX6_lorry 2 (some .int) 1 := ⟨tw_471, tw_472, tw_473, tw_1, tw_474, by decide +kernel, by decide +kernel, by decide +kernel⟩
theorem lk_X6_227 : LkV RX6 227 yX6_isRight cX6_isRight 4 (some .boolean) 0 := ⟨tw_475, tw_477, ts_24, tw_1, tw_478, by decide +kernel, by decide +kernel, by decide +kernel⟩
theorem lk_L_72 : LkV RL 72 yX6_change cX6_change 7 (some .int) 4 := ⟨tw_479, tw_480, tw_481, tw_1, tw_482, by decide +kernel, by decide +kernel, by decide +kernel⟩
theorem lk_X6_236 : LkV RX6 236 yX6_strikeWhereItIs cX6_strikeWhereItIs 2 none 1 := ⟨tw_483, tw_485, ts_25, tw_1, tw_486, by decide +kernel, by decide +kernel, by decide +kernel⟩
theorem lk_L_77 : LkV RL 77 yX6_told cX6_told 4 (some .int) 2 := ⟨tw_487, tw_488, tw_489, tw_1, tw_490, by decide +kernel, by decide +kernel, by decide +kernel⟩
theorem lk_L_81 : LkV RL 81 yX6_at cX6_at 4 (some .int) 2 := ⟨tw_491, tw_492, tw_493, tw_1, tw_494, by decide +kernel, by decide +kernel, by decide +kernel⟩
theorem lk_X6_240 : LkV RX6 240 yX5_from cX5_from 2 (some .int) 1 := ⟨tw_495, tw_352, tw_353, tw_5, tw_354, by decide +kernel, by decide +kernel, by decide +kernel⟩
theorem lk_L_85 : LkV RL 85 yX6_bed cX6_bed 4 (some .int) 2 := ⟨tw_496, tw_497, tw_498, tw_1, tw_499, by decide +kernel, by decide +kernel, by decide +kernel⟩
theorem lk_L_89 : LkV RL 89 yX6_count cX6_count 2 (some .int) 1 := ⟨tw_500, tw_501, tw_502, tw_1, tw_503, by decide +kernel, by decide +kernel, by decide +kernel⟩
theorem lk_L_17 : LkV RL 17 yX7_part cX7_part 4 (some .int) 3 := ⟨tw_614, tw_615, tw_616, tw_8, tw_617, by decide +kernel, by decide +kernel, by decide +kernel⟩
theorem lk_X7_106 : LkS RX7 106 yX7_areWell cX7_areWell 3 (some .boolean) 3 := ⟨tw_618, tw_619, tw_8, tw_620, rfl, by decide +kernel, by decide +kernel, by decide +kernel⟩
theorem lk_X7_96 : LkS RX7 96 yX7_in cX7_in 6 (some .boolean) 3 := ⟨tw_622, tw_623, tw_8, tw_624, rfl, by decide +kernel, by decide +kernel, by decide +kernel⟩
theorem lk_X7_110 : LkV RX7 110 yX7_comes cX7_comes 5 (some .int) 4 := ⟨tw_627, tw_629, ts_26, tw_8, tw_630, by decide +kernel, by decide +kernel, by decide +kernel⟩
theorem lk_L_22 : LkV RL 22 yX7_need cX7_need 4 (some .int) 2 := ⟨tw_631, tw_632, tw_633, tw_8, tw_634, by decide +kernel, by decide +kernel, by decide +kernel⟩
theorem lk_X7_114 : LkV RX7 114 yX7_isPart cX7_isPart 2 (some .boolean) 1 := ⟨tw_635, tw_637, ts_27, tw_8, tw_638, by decide +kernel, by decide +kernel, by decide +kernel⟩
theorem lk_L_26 : LkV RL 26 yX7_casts cX7_casts 6 (some .int) 3 := ⟨tw_640, tw_641, tw_642, tw_8, tw_643, by decide +kernel, by decide +kernel, by decide +kernel⟩
theorem lk_X7_126 : LkV RX7 126 yX7_fewestCasts cX7_fewestCasts 5 (some .int) 0 := ⟨tw_644, tw_646, ts_28, tw_8, tw_647, by decide +kernel, by decide +kernel, by decide +kernel⟩
theorem lk_X7_123 : LkV RX7 123 yX7_fits cX7_fits 6 (some .boolean) 1 := ⟨tw_648, tw_650, ts_29, tw_8, tw_651, by decide +kernel, by decide +kernel, by decide +kernel⟩
theorem lk_X7_130 : LkV RX7 130 yX7_plainCasts cX7_plainCasts 9 (some .int) 0 := ⟨tw_652, tw_654, ts_30, tw_8, tw_655, by decide +kernel, by decide +kernel, by decide +kernel⟩
theorem lk_L_30 : LkV RL 30 yX7_cast cX7_cast 10 (some .int) 3 := ⟨tw_656, tw_657, tw_658, tw_8, tw_659, by decide +kernel, by decide +kernel, by decide +kernel⟩
theorem lk_L_35 : LkV RL 35 yX7_warmth cX7_warmth 3 (some .int) 1 := ⟨tw_661, tw_662, tw_663, tw_8, tw_664, by decide +kernel, by decide +kernel, by decide +kernel⟩
theorem lk_L_39 : LkV RL 39 yX7_hours cX7_hours 3 (some .int) 1 := ⟨tw_667, tw_668, tw_669, tw_8, tw_670, by decide +kernel, by decide +kernel, by decide +kernel⟩
theorem lk_L_43 : LkV RL 43 yX7_letGo cX7_letGo 5 (some .int) 1 := ⟨tw_672, tw_673, tw_674, tw_8, tw_675, by decide +kernel, by decide +kernel, by decide +kernel⟩
theorem lk_L_47 : LkV RL 47 yX7_stack cX7_stack 3 (some .int) 2 := ⟨tw_676, tw_677, tw_678, tw_8, tw_679, by decide +kernel, by decide +kernel, by decide +kernel⟩
theorem lk_X7_148 : LkS RX7 148 yX7_isStack cX7_isStack 1 (some .boolean) 1 := ⟨tw_680, tw_681, tw_8, tw_682, rfl, by decide +kernel, by decide +kernel, by decide +kernel⟩
theorem lk_X7_151 : LkV RX7 151 yX7_lays cX7_lays 3 none 2 := ⟨tw_684, tw_686, ts_31, tw_8, tw_687, by decide +kernel, by decide +kernel, by decide +kernel⟩
theorem lk_L_51 : LkV RL 51 yX7_move cX7_move 4 (some .int) 2 := ⟨tw_688, tw_689, tw_690, tw_8, tw_691, by decide +kernel, by decide +kernel, by decide +kernel⟩
theorem lk_X7_155 : LkV RX7 155 yX7_clears cX7_clears 3 none 1 := ⟨tw_692, tw_694, ts_32, tw_8, tw_695, by decide +kernel, by decide +kernel, by decide +kernel⟩
theorem lk_L_58 : LkV RL 58 yX7_diggings cX7_diggings 7 (some .int) 2 := ⟨tw_696, tw_697, tw_698, tw_8, tw_699, by decide +kernel, by decide +kernel, by decide +kernel⟩
theorem lk_X7_179 : LkV RX7 179 yX7_lies cX7_lies 2 none 0 := ⟨tw_702, tw_704, ts_33, tw_8, tw_705, by decide +kernel, by decide +kernel, by decide +kernel⟩
theorem lk_X7_182 : LkV RX7 182 yX7_does cX7_does 6 (some .boolean) 1 := ⟨tw_706, tw_708, ts_34, tw_8, tw_709, by decide +kernel, by decide +kernel, by decide +kernel⟩
theorem lk_X7_166 : LkV RX7 166 yX7_takes cX7_takes 5 (some .int) 1 := ⟨tw_710, tw_712, ts_35, tw_8, tw_713, by decide +kernel, by decide +kernel, by decide +kernel⟩
theorem lk_X7_162 : LkV RX7 162 yX7_stackOf cX7_stackOf 5 (some .int) 1 := ⟨tw_714, tw_716, ts_36, tw_8, tw_717, by decide +kernel, by decide +kernel, by decide +kernel⟩
theorem lk_X7_169 : LkV RX7 169 yX7_gives cX7_gives 4 none 1 := ⟨tw_718, tw_720, ts_37, tw_8, tw_721, by decide +kernel, by decide +kernel, by decide +kernel⟩
theorem lk_X7_172 : LkV RX7 172 yX7_carries cX7_carries 3 none 2 := ⟨tw_722, tw_724, ts_38, tw_8, tw_725, by decide +kernel, by decide +kernel, by decide +kernel⟩
theorem lk_L_62 : LkV RL 62 yX7_load cX7_load 3 (some .int) 1 := ⟨tw_726, tw_727, tw_728, tw_8, tw_729, by decide +kernel, by decide +kernel, by decide +kernel⟩
theorem lk_X7_188 : LkV RX7 188 yX7_heavy cX7_heavy 3 (some .int) 0 := ⟨tw_730, tw_732, ts_39, tw_8, tw_733, by decide +kernel, by decide +kernel, by decide +kernel⟩
theorem lk_X7_191 : LkV RX7 191 yX7_front cX7_front 3 (some .int) 0 := ⟨tw_734, tw_736, ts_40, tw_8, tw_737, by decide +kernel, by decide +kernel, by decide +kernel⟩
theorem lk_X7_194 : LkV RX7 194 yX7_rear cX7_rear 3 (some .int) 0 := ⟨tw_738, tw_740, ts_41, tw_8, tw_741, by decide +kernel, by decide +kernel, by decide +kernel⟩
theorem lk_L_67 : LkV RL 67 yX7_go cX7_go 3 (some .int) 0 := ⟨tw_742, tw_743, tw_744, tw_8, tw_745, by decide +kernel, by decide +kernel, by decide +kernel⟩
theorem lk_L_71 : LkV RL 71 yX7_lorry cX7_lorry 2 (some .int) 1 := ⟨tw_746, tw_747, tw_748, tw_8, tw_749, by decide +kernel, by decide +kernel, by decide +kernel⟩
theorem lk_X7_200 : LkV RX7 200 yX7_isRight cX7_isRight 3 (some .boolean) 0 := ⟨tw_750, tw_752, ts_42, tw_8, tw_753, by decide +kernel, by decide +kernel, by decide +kernel⟩
theorem lk_L_76 : LkV RL 76 yX7_change cX7_change 7 (some .int) 4 := ⟨tw_754, tw_755, tw_756, tw_8, tw_757, by decide +kernel, by decide +kernel, by decide +kernel⟩
theorem lk_X7_204 : LkV RX7 204 yX7_gets cX7_gets 5 none 4 := ⟨tw_758, tw_760, ts_43, tw_8, tw_761, by decide +kernel, by decide +kernel, by decide +kernel⟩
theorem lk_L_80 : LkV RL 80 yX7_told cX7_told 3 (some .int) 2 := ⟨tw_762, tw_763, tw_764, tw_8, tw_765, by decide +kernel, by decide +kernel, by decide +kernel⟩
theorem lk_L_84 : LkV RL 84 yX7_at cX7_at 3 (some .int) 2 := ⟨tw_766, tw_767, tw_768, tw_8, tw_769, by decide +kernel, by decide +kernel, by decide +kernel⟩
theorem lk_L_88 : LkV RL 88 yX7_bed cX7_bed 5 (some .int) 2 := ⟨tw_770, tw_771, tw_772, tw_8, tw_773, by decide +kernel, by decide +kernel, by decide +kernel⟩
theorem lk_L_92 : LkV RL 92 yX7_count cX7_count 4 (some .int) 1 := ⟨tw_775, tw_776, tw_777, tw_8, tw_778, by decide +kernel, by decide +kernel, by decide +kernel⟩
section GN
variable {V : VX} {E : EX} {own : String} {cc : ByteArray} {n lvl pc : Nat} {μ : Mem} {L : List (Option Value)} {st : List Value}
theorem alen5 {k : Nat} (h : okd k = 5) : alen (k + 5) = 4 := by
  have hk : (43 ≤ k ∧ k < 48) ∨ (53 ≤ k ∧ k < 58) := by
    unfold okd at h
    apply Classical.byContradiction
    intro hc
    have h63 : ∀ (a b c d : Nat), True := fun _ _ _ _ => trivial
    by_cases h1 : k < 40
    · rw [if_pos h1] at h; omega
    · rw [if_neg h1] at h
      by_cases h2 : k < 43
      · rw [if_pos h2] at h; omega
      · rw [if_neg h2, if_neg (by omega), if_neg (by omega)] at h
        by_cases h3 : k = 63
        · rw [if_pos h3] at h; omega
        · rw [if_neg h3] at h
          by_cases h4 : k = 67
          · rw [if_pos h4] at h; omega
          · rw [if_neg h4] at h
            by_cases h5 : k = 69
            · rw [if_pos h5] at h; omega
            · rw [if_neg h5] at h
              by_cases h6 : k = 72
              · rw [if_pos h6] at h; omega
              · rw [if_neg h6] at h
                by_cases h7 : k = 76
                · rw [if_pos h7] at h; omega
                · rw [if_neg h7] at h; omega
  rcases hk with ⟨h1, h2⟩ | ⟨h1, h2⟩
  · have := alen_pile (k := k - 43) (by omega)
    rwa [show 43 + (k - 43) + 5 = k + 5 by omega] at this
  · have := alen_dpile (k := k - 53) (by omega)
    rwa [show 53 + (k - 53) + 5 = k + 5 by omega] at this
theorem g_ialdN {i : Nat} (hX : OkX V E own cc n lvl) (d : decode cc pc = .ok (.iaload, 1)) {k0 N : Nat} {a : Int} (hk : alen k0 = N) (hi : a = (i : Int)) (h1 : i < N) (hN : N ≤ 4096) (k : G V E μ (pc + 1) L (vi (μ k0 i) :: st)) : G V E μ pc L (vi a :: vr V k0 :: st) := by
  subst hi
  exact g_iald hX d hk (by omega) (by omega) hN k
theorem g_iastN {i : Nat} (hX : OkX V E own cc n lvl) (d : decode cc pc = .ok (.iastore, 1)) {k0 N : Nat} {a z : Int} (hk : alen k0 = N) (hi : a = (i : Int)) (h1 : i < N) (hN : N ≤ 4096) (k : G V E (mset μ k0 i z) (pc + 1) L st) : G V E μ pc L (vi z :: vi a :: vr V k0 :: st) := by
  subst hi
  exact g_iast hX d hk (by omega) (by omega) hN k
theorem g_zaldN {i : Nat} (hX : OkX V E own cc n lvl) (d : decode cc pc = .ok (.baload, 1)) {a : Int} (hi : a = (i : Int)) (h1 : i < 40) (k : G V E μ (pc + 1) L (vi (μ 84 i) :: st)) : G V E μ pc L (vi a :: vr V 84 :: st) := by
  subst hi
  exact g_zald hX d (by omega) (by omega) k
theorem g_zastN {i : Nat} (hX : OkX V E own cc n lvl) (d : decode cc pc = .ok (.bastore, 1)) {a z : Int} (hz : z = 0 ∨ z = 1) (hi : a = (i : Int)) (h1 : i < 40) (k : G V E (mset μ 84 i z) (pc + 1) L st) : G V E μ pc L (vi z :: vi a :: vr V 84 :: st) := by
  subst hi
  exact g_zast hX d hz (by omega) (by omega) k
theorem g_ald_parts {i : Nat} (hX : OkX V E own cc n lvl) (d : decode cc pc = .ok (.aaload, 1)) {a : Int} (hi : a = (i : Int)) (h1 : i < 40) (k : G V E μ (pc + 1) L (vr V i :: st)) : G V E μ pc L (vi a :: vr V 64 :: st) := by
  subst hi
  exact g_aald (k0 := 64) (N := 40) (o := 0) hX d (Or.inl ⟨rfl, rfl, rfl⟩) (by omega) (by omega) (by rw [Nat.zero_add, Int.toNat_natCast]; exact k)
theorem g_ald_beds {i : Nat} (hX : OkX V E own cc n lvl) (d : decode cc pc = .ok (.aaload, 1)) {a : Int} (hi : a = (i : Int)) (h1 : i < 3) (k : G V E μ (pc + 1) L (vr V (40 + i) :: st)) : G V E μ pc L (vi a :: vr V 65 :: st) := by
  subst hi
  exact g_aald (k0 := 65) (N := 3) (o := 40) hX d (Or.inr (Or.inl ⟨rfl, rfl, rfl⟩)) (by omega) (by omega) k
theorem g_ald_stacks {i : Nat} (hX : OkX V E own cc n lvl) (d : decode cc pc = .ok (.aaload, 1)) {a : Int} (hi : a = (i : Int)) (h1 : i < 5) (k : G V E μ (pc + 1) L (vr V (43 + i) :: st)) : G V E μ pc L (vi a :: vr V 66 :: st) := by
  subst hi
  exact g_aald (k0 := 66) (N := 5) (o := 43) hX d (Or.inr (Or.inr (Or.inl ⟨rfl, rfl, rfl⟩))) (by omega) (by omega) k
theorem g_ald_piles {i : Nat} (hX : OkX V E own cc n lvl) (d : decode cc pc = .ok (.aaload, 1)) {a : Int} (hi : a = (i : Int)) (h1 : i < 5) (k : G V E μ (pc + 1) L (vr V (53 + i) :: st)) : G V E μ pc L (vi a :: vr V 73 :: st) := by
  subst hi
  exact g_aald (k0 := 73) (N := 5) (o := 53) hX d (Or.inr (Or.inr (Or.inr ⟨rfl, rfl, rfl⟩))) (by omega) (by omega) k
/-! what a method leaves -/
def pI (P : Int → Mem → Prop) : Option Value → Mem → Prop := fun r μ' => ∃ z, r = some (vi z) ∧ P z μ'
def pV (P : Mem → Prop) : Option Value → Mem → Prop := fun r μ' => r = none ∧ P μ'
def pR (V : VX) (P : Option Nat → Mem → Prop) : Option Value → Mem → Prop := fun r μ' => ∃ k, r = some (vrf V k) ∧ P k μ'

theorem g_v0I {y : MethodName} {cc' : ByteArray} {n' lvl' idx : Nat} {ret' : Option FieldType} {P : Int → Mem → Prop}  {k0 c0 : Nat} (hX : OkX V E own cc n lvl) (lk : LkV own idx y cc' n' ret' 0) (d : decode cc pc = .ok (.invokevirtual idx, 3)) (hk : okd k0 = c0) (hc : ∃ q : vw_C, vwCl[c0]? = some q ∧ q.1 = y.cls)
    (hC : Ct E.1.2.1 y cc' n' ret' lvl' V (vr V k0 :: []) μ (pI P)) (hlv : lvl' < lvl) (hn' : n' ≤ 21) (hLn : L.length = n) (hcat : (st.map fun v => v.category).sum ≤ 8) (k : ∀ z μ', P z μ' → G V E μ' (pc + 3) L (vi z :: st)) : G V E μ pc L (vr V k0 :: st) :=
  g_callV (as := []) hX lk d hk hc hC hlv hn' rfl hLn rfl hcat (fun r μ' hp => by obtain ⟨z, rfl, hp⟩ := hp; exact k z μ' hp)
theorem g_s0I {y : MethodName} {cc' : ByteArray} {n' lvl' idx : Nat} {ret' : Option FieldType} {P : Int → Mem → Prop}  (hX : OkX V E own cc n lvl) (lk : LkS own idx y cc' n' ret' 0) (d : decode cc pc = .ok (.invokestatic idx, 3))
    (hC : Ct E.1.2.1 y cc' n' ret' lvl' V [] μ (pI P)) (hlv : lvl' < lvl) (hn' : n' ≤ 21) (hLn : L.length = n) (hcat : (st.map fun v => v.category).sum ≤ 8) (k : ∀ z μ', P z μ' → G V E μ' (pc + 3) L (vi z :: st)) : G V E μ pc L (st) :=
  g_callS (as := []) hX lk d hC hlv hn' rfl hLn rfl hcat (fun r μ' hp => by obtain ⟨z, rfl, hp⟩ := hp; exact k z μ' hp)
theorem g_v0V {y : MethodName} {cc' : ByteArray} {n' lvl' idx : Nat} {ret' : Option FieldType} {P : Mem → Prop}  {k0 c0 : Nat} (hX : OkX V E own cc n lvl) (lk : LkV own idx y cc' n' ret' 0) (d : decode cc pc = .ok (.invokevirtual idx, 3)) (hk : okd k0 = c0) (hc : ∃ q : vw_C, vwCl[c0]? = some q ∧ q.1 = y.cls)
    (hC : Ct E.1.2.1 y cc' n' ret' lvl' V (vr V k0 :: []) μ (pV P)) (hlv : lvl' < lvl) (hn' : n' ≤ 21) (hLn : L.length = n) (hcat : (st.map fun v => v.category).sum ≤ 8) (k : ∀ μ', P μ' → G V E μ' (pc + 3) L (st)) : G V E μ pc L (vr V k0 :: st) :=
  g_callV (as := []) hX lk d hk hc hC hlv hn' rfl hLn rfl hcat (fun r μ' hp => by obtain ⟨rfl, hp⟩ := hp; exact k μ' hp)
theorem g_s0V {y : MethodName} {cc' : ByteArray} {n' lvl' idx : Nat} {ret' : Option FieldType} {P : Mem → Prop}  (hX : OkX V E own cc n lvl) (lk : LkS own idx y cc' n' ret' 0) (d : decode cc pc = .ok (.invokestatic idx, 3))
    (hC : Ct E.1.2.1 y cc' n' ret' lvl' V [] μ (pV P)) (hlv : lvl' < lvl) (hn' : n' ≤ 21) (hLn : L.length = n) (hcat : (st.map fun v => v.category).sum ≤ 8) (k : ∀ μ', P μ' → G V E μ' (pc + 3) L (st)) : G V E μ pc L (st) :=
  g_callS (as := []) hX lk d hC hlv hn' rfl hLn rfl hcat (fun r μ' hp => by obtain ⟨rfl, hp⟩ := hp; exact k μ' hp)
theorem g_v0R {y : MethodName} {cc' : ByteArray} {n' lvl' idx : Nat} {ret' : Option FieldType} {P : Option Nat → Mem → Prop}  {k0 c0 : Nat} (hX : OkX V E own cc n lvl) (lk : LkV own idx y cc' n' ret' 0) (d : decode cc pc = .ok (.invokevirtual idx, 3)) (hk : okd k0 = c0) (hc : ∃ q : vw_C, vwCl[c0]? = some q ∧ q.1 = y.cls)
    (hC : Ct E.1.2.1 y cc' n' ret' lvl' V (vr V k0 :: []) μ (pR V P)) (hlv : lvl' < lvl) (hn' : n' ≤ 21) (hLn : L.length = n) (hcat : (st.map fun v => v.category).sum ≤ 8) (k : ∀ r μ', P r μ' → G V E μ' (pc + 3) L (vrf V r :: st)) : G V E μ pc L (vr V k0 :: st) :=
  g_callV (as := []) hX lk d hk hc hC hlv hn' rfl hLn rfl hcat (fun r μ' hp => by obtain ⟨z, rfl, hp⟩ := hp; exact k z μ' hp)
theorem g_s0R {y : MethodName} {cc' : ByteArray} {n' lvl' idx : Nat} {ret' : Option FieldType} {P : Option Nat → Mem → Prop}  (hX : OkX V E own cc n lvl) (lk : LkS own idx y cc' n' ret' 0) (d : decode cc pc = .ok (.invokestatic idx, 3))
    (hC : Ct E.1.2.1 y cc' n' ret' lvl' V [] μ (pR V P)) (hlv : lvl' < lvl) (hn' : n' ≤ 21) (hLn : L.length = n) (hcat : (st.map fun v => v.category).sum ≤ 8) (k : ∀ r μ', P r μ' → G V E μ' (pc + 3) L (vrf V r :: st)) : G V E μ pc L (st) :=
  g_callS (as := []) hX lk d hC hlv hn' rfl hLn rfl hcat (fun r μ' hp => by obtain ⟨z, rfl, hp⟩ := hp; exact k z μ' hp)
theorem g_v1I {y : MethodName} {cc' : ByteArray} {n' lvl' idx : Nat} {ret' : Option FieldType} {P : Int → Mem → Prop} {x0 : Value} {k0 c0 : Nat} (hX : OkX V E own cc n lvl) (lk : LkV own idx y cc' n' ret' 1) (d : decode cc pc = .ok (.invokevirtual idx, 3)) (hk : okd k0 = c0) (hc : ∃ q : vw_C, vwCl[c0]? = some q ∧ q.1 = y.cls)
    (hC : Ct E.1.2.1 y cc' n' ret' lvl' V (vr V k0 :: [x0]) μ (pI P)) (hlv : lvl' < lvl) (hn' : n' ≤ 21) (hLn : L.length = n) (hcat : (st.map fun v => v.category).sum ≤ 8) (k : ∀ z μ', P z μ' → G V E μ' (pc + 3) L (vi z :: st)) : G V E μ pc L (x0 :: vr V k0 :: st) :=
  g_callV (as := [x0]) hX lk d hk hc hC hlv hn' rfl hLn rfl hcat (fun r μ' hp => by obtain ⟨z, rfl, hp⟩ := hp; exact k z μ' hp)
theorem g_s1I {y : MethodName} {cc' : ByteArray} {n' lvl' idx : Nat} {ret' : Option FieldType} {P : Int → Mem → Prop} {x0 : Value} (hX : OkX V E own cc n lvl) (lk : LkS own idx y cc' n' ret' 1) (d : decode cc pc = .ok (.invokestatic idx, 3))
    (hC : Ct E.1.2.1 y cc' n' ret' lvl' V [x0] μ (pI P)) (hlv : lvl' < lvl) (hn' : n' ≤ 21) (hLn : L.length = n) (hcat : (st.map fun v => v.category).sum ≤ 8) (k : ∀ z μ', P z μ' → G V E μ' (pc + 3) L (vi z :: st)) : G V E μ pc L (x0 :: st) :=
  g_callS (as := [x0]) hX lk d hC hlv hn' rfl hLn rfl hcat (fun r μ' hp => by obtain ⟨z, rfl, hp⟩ := hp; exact k z μ' hp)
theorem g_v1V {y : MethodName} {cc' : ByteArray} {n' lvl' idx : Nat} {ret' : Option FieldType} {P : Mem → Prop} {x0 : Value} {k0 c0 : Nat} (hX : OkX V E own cc n lvl) (lk : LkV own idx y cc' n' ret' 1) (d : decode cc pc = .ok (.invokevirtual idx, 3)) (hk : okd k0 = c0) (hc : ∃ q : vw_C, vwCl[c0]? = some q ∧ q.1 = y.cls)
    (hC : Ct E.1.2.1 y cc' n' ret' lvl' V (vr V k0 :: [x0]) μ (pV P)) (hlv : lvl' < lvl) (hn' : n' ≤ 21) (hLn : L.length = n) (hcat : (st.map fun v => v.category).sum ≤ 8) (k : ∀ μ', P μ' → G V E μ' (pc + 3) L (st)) : G V E μ pc L (x0 :: vr V k0 :: st) :=
  g_callV (as := [x0]) hX lk d hk hc hC hlv hn' rfl hLn rfl hcat (fun r μ' hp => by obtain ⟨rfl, hp⟩ := hp; exact k μ' hp)
theorem g_s1V {y : MethodName} {cc' : ByteArray} {n' lvl' idx : Nat} {ret' : Option FieldType} {P : Mem → Prop} {x0 : Value} (hX : OkX V E own cc n lvl) (lk : LkS own idx y cc' n' ret' 1) (d : decode cc pc = .ok (.invokestatic idx, 3))
    (hC : Ct E.1.2.1 y cc' n' ret' lvl' V [x0] μ (pV P)) (hlv : lvl' < lvl) (hn' : n' ≤ 21) (hLn : L.length = n) (hcat : (st.map fun v => v.category).sum ≤ 8) (k : ∀ μ', P μ' → G V E μ' (pc + 3) L (st)) : G V E μ pc L (x0 :: st) :=
  g_callS (as := [x0]) hX lk d hC hlv hn' rfl hLn rfl hcat (fun r μ' hp => by obtain ⟨rfl, hp⟩ := hp; exact k μ' hp)
theorem g_v1R {y : MethodName} {cc' : ByteArray} {n' lvl' idx : Nat} {ret' : Option FieldType} {P : Option Nat → Mem → Prop} {x0 : Value} {k0 c0 : Nat} (hX : OkX V E own cc n lvl) (lk : LkV own idx y cc' n' ret' 1) (d : decode cc pc = .ok (.invokevirtual idx, 3)) (hk : okd k0 = c0) (hc : ∃ q : vw_C, vwCl[c0]? = some q ∧ q.1 = y.cls)
    (hC : Ct E.1.2.1 y cc' n' ret' lvl' V (vr V k0 :: [x0]) μ (pR V P)) (hlv : lvl' < lvl) (hn' : n' ≤ 21) (hLn : L.length = n) (hcat : (st.map fun v => v.category).sum ≤ 8) (k : ∀ r μ', P r μ' → G V E μ' (pc + 3) L (vrf V r :: st)) : G V E μ pc L (x0 :: vr V k0 :: st) :=
  g_callV (as := [x0]) hX lk d hk hc hC hlv hn' rfl hLn rfl hcat (fun r μ' hp => by obtain ⟨z, rfl, hp⟩ := hp; exact k z μ' hp)
theorem g_s1R {y : MethodName} {cc' : ByteArray} {n' lvl' idx : Nat} {ret' : Option FieldType} {P : Option Nat → Mem → Prop} {x0 : Value} (hX : OkX V E own cc n lvl) (lk : LkS own idx y cc' n' ret' 1) (d : decode cc pc = .ok (.invokestatic idx, 3))
    (hC : Ct E.1.2.1 y cc' n' ret' lvl' V [x0] μ (pR V P)) (hlv : lvl' < lvl) (hn' : n' ≤ 21) (hLn : L.length = n) (hcat : (st.map fun v => v.category).sum ≤ 8) (k : ∀ r μ', P r μ' → G V E μ' (pc + 3) L (vrf V r :: st)) : G V E μ pc L (x0 :: st) :=
  g_callS (as := [x0]) hX lk d hC hlv hn' rfl hLn rfl hcat (fun r μ' hp => by obtain ⟨z, rfl, hp⟩ := hp; exact k z μ' hp)
theorem g_v2I {y : MethodName} {cc' : ByteArray} {n' lvl' idx : Nat} {ret' : Option FieldType} {P : Int → Mem → Prop} {x0 x1 : Value} {k0 c0 : Nat} (hX : OkX V E own cc n lvl) (lk : LkV own idx y cc' n' ret' 2) (d : decode cc pc = .ok (.invokevirtual idx, 3)) (hk : okd k0 = c0) (hc : ∃ q : vw_C, vwCl[c0]? = some q ∧ q.1 = y.cls)
    (hC : Ct E.1.2.1 y cc' n' ret' lvl' V (vr V k0 :: [x0, x1]) μ (pI P)) (hlv : lvl' < lvl) (hn' : n' ≤ 21) (hLn : L.length = n) (hcat : (st.map fun v => v.category).sum ≤ 8) (k : ∀ z μ', P z μ' → G V E μ' (pc + 3) L (vi z :: st)) : G V E μ pc L (x1 :: x0 :: vr V k0 :: st) :=
  g_callV (as := [x0, x1]) hX lk d hk hc hC hlv hn' rfl hLn rfl hcat (fun r μ' hp => by obtain ⟨z, rfl, hp⟩ := hp; exact k z μ' hp)
theorem g_s2I {y : MethodName} {cc' : ByteArray} {n' lvl' idx : Nat} {ret' : Option FieldType} {P : Int → Mem → Prop} {x0 x1 : Value} (hX : OkX V E own cc n lvl) (lk : LkS own idx y cc' n' ret' 2) (d : decode cc pc = .ok (.invokestatic idx, 3))
    (hC : Ct E.1.2.1 y cc' n' ret' lvl' V [x0, x1] μ (pI P)) (hlv : lvl' < lvl) (hn' : n' ≤ 21) (hLn : L.length = n) (hcat : (st.map fun v => v.category).sum ≤ 8) (k : ∀ z μ', P z μ' → G V E μ' (pc + 3) L (vi z :: st)) : G V E μ pc L (x1 :: x0 :: st) :=
  g_callS (as := [x0, x1]) hX lk d hC hlv hn' rfl hLn rfl hcat (fun r μ' hp => by obtain ⟨z, rfl, hp⟩ := hp; exact k z μ' hp)
theorem g_v2V {y : MethodName} {cc' : ByteArray} {n' lvl' idx : Nat} {ret' : Option FieldType} {P : Mem → Prop} {x0 x1 : Value} {k0 c0 : Nat} (hX : OkX V E own cc n lvl) (lk : LkV own idx y cc' n' ret' 2) (d : decode cc pc = .ok (.invokevirtual idx, 3)) (hk : okd k0 = c0) (hc : ∃ q : vw_C, vwCl[c0]? = some q ∧ q.1 = y.cls)
    (hC : Ct E.1.2.1 y cc' n' ret' lvl' V (vr V k0 :: [x0, x1]) μ (pV P)) (hlv : lvl' < lvl) (hn' : n' ≤ 21) (hLn : L.length = n) (hcat : (st.map fun v => v.category).sum ≤ 8) (k : ∀ μ', P μ' → G V E μ' (pc + 3) L (st)) : G V E μ pc L (x1 :: x0 :: vr V k0 :: st) :=
  g_callV (as := [x0, x1]) hX lk d hk hc hC hlv hn' rfl hLn rfl hcat (fun r μ' hp => by obtain ⟨rfl, hp⟩ := hp; exact k μ' hp)
theorem g_s2V {y : MethodName} {cc' : ByteArray} {n' lvl' idx : Nat} {ret' : Option FieldType} {P : Mem → Prop} {x0 x1 : Value} (hX : OkX V E own cc n lvl) (lk : LkS own idx y cc' n' ret' 2) (d : decode cc pc = .ok (.invokestatic idx, 3))
    (hC : Ct E.1.2.1 y cc' n' ret' lvl' V [x0, x1] μ (pV P)) (hlv : lvl' < lvl) (hn' : n' ≤ 21) (hLn : L.length = n) (hcat : (st.map fun v => v.category).sum ≤ 8) (k : ∀ μ', P μ' → G V E μ' (pc + 3) L (st)) : G V E μ pc L (x1 :: x0 :: st) :=
  g_callS (as := [x0, x1]) hX lk d hC hlv hn' rfl hLn rfl hcat (fun r μ' hp => by obtain ⟨rfl, hp⟩ := hp; exact k μ' hp)
theorem g_v2R {y : MethodName} {cc' : ByteArray} {n' lvl' idx : Nat} {ret' : Option FieldType} {P : Option Nat → Mem → Prop} {x0 x1 : Value} {k0 c0 : Nat} (hX : OkX V E own cc n lvl) (lk : LkV own idx y cc' n' ret' 2) (d : decode cc pc = .ok (.invokevirtual idx, 3)) (hk : okd k0 = c0) (hc : ∃ q : vw_C, vwCl[c0]? = some q ∧ q.1 = y.cls)
    (hC : Ct E.1.2.1 y cc' n' ret' lvl' V (vr V k0 :: [x0, x1]) μ (pR V P)) (hlv : lvl' < lvl) (hn' : n' ≤ 21) (hLn : L.length = n) (hcat : (st.map fun v => v.category).sum ≤ 8) (k : ∀ r μ', P r μ' → G V E μ' (pc + 3) L (vrf V r :: st)) : G V E μ pc L (x1 :: x0 :: vr V k0 :: st) :=
  g_callV (as := [x0, x1]) hX lk d hk hc hC hlv hn' rfl hLn rfl hcat (fun r μ' hp => by obtain ⟨z, rfl, hp⟩ := hp; exact k z μ' hp)
theorem g_s2R {y : MethodName} {cc' : ByteArray} {n' lvl' idx : Nat} {ret' : Option FieldType} {P : Option Nat → Mem → Prop} {x0 x1 : Value} (hX : OkX V E own cc n lvl) (lk : LkS own idx y cc' n' ret' 2) (d : decode cc pc = .ok (.invokestatic idx, 3))
    (hC : Ct E.1.2.1 y cc' n' ret' lvl' V [x0, x1] μ (pR V P)) (hlv : lvl' < lvl) (hn' : n' ≤ 21) (hLn : L.length = n) (hcat : (st.map fun v => v.category).sum ≤ 8) (k : ∀ r μ', P r μ' → G V E μ' (pc + 3) L (vrf V r :: st)) : G V E μ pc L (x1 :: x0 :: st) :=
  g_callS (as := [x0, x1]) hX lk d hC hlv hn' rfl hLn rfl hcat (fun r μ' hp => by obtain ⟨z, rfl, hp⟩ := hp; exact k z μ' hp)
theorem g_v3I {y : MethodName} {cc' : ByteArray} {n' lvl' idx : Nat} {ret' : Option FieldType} {P : Int → Mem → Prop} {x0 x1 x2 : Value} {k0 c0 : Nat} (hX : OkX V E own cc n lvl) (lk : LkV own idx y cc' n' ret' 3) (d : decode cc pc = .ok (.invokevirtual idx, 3)) (hk : okd k0 = c0) (hc : ∃ q : vw_C, vwCl[c0]? = some q ∧ q.1 = y.cls)
    (hC : Ct E.1.2.1 y cc' n' ret' lvl' V (vr V k0 :: [x0, x1, x2]) μ (pI P)) (hlv : lvl' < lvl) (hn' : n' ≤ 21) (hLn : L.length = n) (hcat : (st.map fun v => v.category).sum ≤ 8) (k : ∀ z μ', P z μ' → G V E μ' (pc + 3) L (vi z :: st)) : G V E μ pc L (x2 :: x1 :: x0 :: vr V k0 :: st) :=
  g_callV (as := [x0, x1, x2]) hX lk d hk hc hC hlv hn' rfl hLn rfl hcat (fun r μ' hp => by obtain ⟨z, rfl, hp⟩ := hp; exact k z μ' hp)
theorem g_s3I {y : MethodName} {cc' : ByteArray} {n' lvl' idx : Nat} {ret' : Option FieldType} {P : Int → Mem → Prop} {x0 x1 x2 : Value} (hX : OkX V E own cc n lvl) (lk : LkS own idx y cc' n' ret' 3) (d : decode cc pc = .ok (.invokestatic idx, 3))
    (hC : Ct E.1.2.1 y cc' n' ret' lvl' V [x0, x1, x2] μ (pI P)) (hlv : lvl' < lvl) (hn' : n' ≤ 21) (hLn : L.length = n) (hcat : (st.map fun v => v.category).sum ≤ 8) (k : ∀ z μ', P z μ' → G V E μ' (pc + 3) L (vi z :: st)) : G V E μ pc L (x2 :: x1 :: x0 :: st) :=
  g_callS (as := [x0, x1, x2]) hX lk d hC hlv hn' rfl hLn rfl hcat (fun r μ' hp => by obtain ⟨z, rfl, hp⟩ := hp; exact k z μ' hp)
theorem g_v3V {y : MethodName} {cc' : ByteArray} {n' lvl' idx : Nat} {ret' : Option FieldType} {P : Mem → Prop} {x0 x1 x2 : Value} {k0 c0 : Nat} (hX : OkX V E own cc n lvl) (lk : LkV own idx y cc' n' ret' 3) (d : decode cc pc = .ok (.invokevirtual idx, 3)) (hk : okd k0 = c0) (hc : ∃ q : vw_C, vwCl[c0]? = some q ∧ q.1 = y.cls)
    (hC : Ct E.1.2.1 y cc' n' ret' lvl' V (vr V k0 :: [x0, x1, x2]) μ (pV P)) (hlv : lvl' < lvl) (hn' : n' ≤ 21) (hLn : L.length = n) (hcat : (st.map fun v => v.category).sum ≤ 8) (k : ∀ μ', P μ' → G V E μ' (pc + 3) L (st)) : G V E μ pc L (x2 :: x1 :: x0 :: vr V k0 :: st) :=
  g_callV (as := [x0, x1, x2]) hX lk d hk hc hC hlv hn' rfl hLn rfl hcat (fun r μ' hp => by obtain ⟨rfl, hp⟩ := hp; exact k μ' hp)
theorem g_s3V {y : MethodName} {cc' : ByteArray} {n' lvl' idx : Nat} {ret' : Option FieldType} {P : Mem → Prop} {x0 x1 x2 : Value} (hX : OkX V E own cc n lvl) (lk : LkS own idx y cc' n' ret' 3) (d : decode cc pc = .ok (.invokestatic idx, 3))
    (hC : Ct E.1.2.1 y cc' n' ret' lvl' V [x0, x1, x2] μ (pV P)) (hlv : lvl' < lvl) (hn' : n' ≤ 21) (hLn : L.length = n) (hcat : (st.map fun v => v.category).sum ≤ 8) (k : ∀ μ', P μ' → G V E μ' (pc + 3) L (st)) : G V E μ pc L (x2 :: x1 :: x0 :: st) :=
  g_callS (as := [x0, x1, x2]) hX lk d hC hlv hn' rfl hLn rfl hcat (fun r μ' hp => by obtain ⟨rfl, hp⟩ := hp; exact k μ' hp)
theorem g_v3R {y : MethodName} {cc' : ByteArray} {n' lvl' idx : Nat} {ret' : Option FieldType} {P : Option Nat → Mem → Prop} {x0 x1 x2 : Value} {k0 c0 : Nat} (hX : OkX V E own cc n lvl) (lk : LkV own idx y cc' n' ret' 3) (d : decode cc pc = .ok (.invokevirtual idx, 3)) (hk : okd k0 = c0) (hc : ∃ q : vw_C, vwCl[c0]? = some q ∧ q.1 = y.cls)
    (hC : Ct E.1.2.1 y cc' n' ret' lvl' V (vr V k0 :: [x0, x1, x2]) μ (pR V P)) (hlv : lvl' < lvl) (hn' : n' ≤ 21) (hLn : L.length = n) (hcat : (st.map fun v => v.category).sum ≤ 8) (k : ∀ r μ', P r μ' → G V E μ' (pc + 3) L (vrf V r :: st)) : G V E μ pc L (x2 :: x1 :: x0 :: vr V k0 :: st) :=
  g_callV (as := [x0, x1, x2]) hX lk d hk hc hC hlv hn' rfl hLn rfl hcat (fun r μ' hp => by obtain ⟨z, rfl, hp⟩ := hp; exact k z μ' hp)
theorem g_s3R {y : MethodName} {cc' : ByteArray} {n' lvl' idx : Nat} {ret' : Option FieldType} {P : Option Nat → Mem → Prop} {x0 x1 x2 : Value} (hX : OkX V E own cc n lvl) (lk : LkS own idx y cc' n' ret' 3) (d : decode cc pc = .ok (.invokestatic idx, 3))
    (hC : Ct E.1.2.1 y cc' n' ret' lvl' V [x0, x1, x2] μ (pR V P)) (hlv : lvl' < lvl) (hn' : n' ≤ 21) (hLn : L.length = n) (hcat : (st.map fun v => v.category).sum ≤ 8) (k : ∀ r μ', P r μ' → G V E μ' (pc + 3) L (vrf V r :: st)) : G V E μ pc L (x2 :: x1 :: x0 :: st) :=
  g_callS (as := [x0, x1, x2]) hX lk d hC hlv hn' rfl hLn rfl hcat (fun r μ' hp => by obtain ⟨z, rfl, hp⟩ := hp; exact k z μ' hp)
theorem g_v4I {y : MethodName} {cc' : ByteArray} {n' lvl' idx : Nat} {ret' : Option FieldType} {P : Int → Mem → Prop} {x0 x1 x2 x3 : Value} {k0 c0 : Nat} (hX : OkX V E own cc n lvl) (lk : LkV own idx y cc' n' ret' 4) (d : decode cc pc = .ok (.invokevirtual idx, 3)) (hk : okd k0 = c0) (hc : ∃ q : vw_C, vwCl[c0]? = some q ∧ q.1 = y.cls)
    (hC : Ct E.1.2.1 y cc' n' ret' lvl' V (vr V k0 :: [x0, x1, x2, x3]) μ (pI P)) (hlv : lvl' < lvl) (hn' : n' ≤ 21) (hLn : L.length = n) (hcat : (st.map fun v => v.category).sum ≤ 8) (k : ∀ z μ', P z μ' → G V E μ' (pc + 3) L (vi z :: st)) : G V E μ pc L (x3 :: x2 :: x1 :: x0 :: vr V k0 :: st) :=
  g_callV (as := [x0, x1, x2, x3]) hX lk d hk hc hC hlv hn' rfl hLn rfl hcat (fun r μ' hp => by obtain ⟨z, rfl, hp⟩ := hp; exact k z μ' hp)
theorem g_s4I {y : MethodName} {cc' : ByteArray} {n' lvl' idx : Nat} {ret' : Option FieldType} {P : Int → Mem → Prop} {x0 x1 x2 x3 : Value} (hX : OkX V E own cc n lvl) (lk : LkS own idx y cc' n' ret' 4) (d : decode cc pc = .ok (.invokestatic idx, 3))
    (hC : Ct E.1.2.1 y cc' n' ret' lvl' V [x0, x1, x2, x3] μ (pI P)) (hlv : lvl' < lvl) (hn' : n' ≤ 21) (hLn : L.length = n) (hcat : (st.map fun v => v.category).sum ≤ 8) (k : ∀ z μ', P z μ' → G V E μ' (pc + 3) L (vi z :: st)) : G V E μ pc L (x3 :: x2 :: x1 :: x0 :: st) :=
  g_callS (as := [x0, x1, x2, x3]) hX lk d hC hlv hn' rfl hLn rfl hcat (fun r μ' hp => by obtain ⟨z, rfl, hp⟩ := hp; exact k z μ' hp)
theorem g_v4V {y : MethodName} {cc' : ByteArray} {n' lvl' idx : Nat} {ret' : Option FieldType} {P : Mem → Prop} {x0 x1 x2 x3 : Value} {k0 c0 : Nat} (hX : OkX V E own cc n lvl) (lk : LkV own idx y cc' n' ret' 4) (d : decode cc pc = .ok (.invokevirtual idx, 3)) (hk : okd k0 = c0) (hc : ∃ q : vw_C, vwCl[c0]? = some q ∧ q.1 = y.cls)
    (hC : Ct E.1.2.1 y cc' n' ret' lvl' V (vr V k0 :: [x0, x1, x2, x3]) μ (pV P)) (hlv : lvl' < lvl) (hn' : n' ≤ 21) (hLn : L.length = n) (hcat : (st.map fun v => v.category).sum ≤ 8) (k : ∀ μ', P μ' → G V E μ' (pc + 3) L (st)) : G V E μ pc L (x3 :: x2 :: x1 :: x0 :: vr V k0 :: st) :=
  g_callV (as := [x0, x1, x2, x3]) hX lk d hk hc hC hlv hn' rfl hLn rfl hcat (fun r μ' hp => by obtain ⟨rfl, hp⟩ := hp; exact k μ' hp)
theorem g_s4V {y : MethodName} {cc' : ByteArray} {n' lvl' idx : Nat} {ret' : Option FieldType} {P : Mem → Prop} {x0 x1 x2 x3 : Value} (hX : OkX V E own cc n lvl) (lk : LkS own idx y cc' n' ret' 4) (d : decode cc pc = .ok (.invokestatic idx, 3))
    (hC : Ct E.1.2.1 y cc' n' ret' lvl' V [x0, x1, x2, x3] μ (pV P)) (hlv : lvl' < lvl) (hn' : n' ≤ 21) (hLn : L.length = n) (hcat : (st.map fun v => v.category).sum ≤ 8) (k : ∀ μ', P μ' → G V E μ' (pc + 3) L (st)) : G V E μ pc L (x3 :: x2 :: x1 :: x0 :: st) :=
  g_callS (as := [x0, x1, x2, x3]) hX lk d hC hlv hn' rfl hLn rfl hcat (fun r μ' hp => by obtain ⟨rfl, hp⟩ := hp; exact k μ' hp)
theorem g_v4R {y : MethodName} {cc' : ByteArray} {n' lvl' idx : Nat} {ret' : Option FieldType} {P : Option Nat → Mem → Prop} {x0 x1 x2 x3 : Value} {k0 c0 : Nat} (hX : OkX V E own cc n lvl) (lk : LkV own idx y cc' n' ret' 4) (d : decode cc pc = .ok (.invokevirtual idx, 3)) (hk : okd k0 = c0) (hc : ∃ q : vw_C, vwCl[c0]? = some q ∧ q.1 = y.cls)
    (hC : Ct E.1.2.1 y cc' n' ret' lvl' V (vr V k0 :: [x0, x1, x2, x3]) μ (pR V P)) (hlv : lvl' < lvl) (hn' : n' ≤ 21) (hLn : L.length = n) (hcat : (st.map fun v => v.category).sum ≤ 8) (k : ∀ r μ', P r μ' → G V E μ' (pc + 3) L (vrf V r :: st)) : G V E μ pc L (x3 :: x2 :: x1 :: x0 :: vr V k0 :: st) :=
  g_callV (as := [x0, x1, x2, x3]) hX lk d hk hc hC hlv hn' rfl hLn rfl hcat (fun r μ' hp => by obtain ⟨z, rfl, hp⟩ := hp; exact k z μ' hp)
theorem g_s4R {y : MethodName} {cc' : ByteArray} {n' lvl' idx : Nat} {ret' : Option FieldType} {P : Option Nat → Mem → Prop} {x0 x1 x2 x3 : Value} (hX : OkX V E own cc n lvl) (lk : LkS own idx y cc' n' ret' 4) (d : decode cc pc = .ok (.invokestatic idx, 3))
    (hC : Ct E.1.2.1 y cc' n' ret' lvl' V [x0, x1, x2, x3] μ (pR V P)) (hlv : lvl' < lvl) (hn' : n' ≤ 21) (hLn : L.length = n) (hcat : (st.map fun v => v.category).sum ≤ 8) (k : ∀ r μ', P r μ' → G V E μ' (pc + 3) L (vrf V r :: st)) : G V E μ pc L (x3 :: x2 :: x1 :: x0 :: st) :=
  g_callS (as := [x0, x1, x2, x3]) hX lk d hC hlv hn' rfl hLn rfl hcat (fun r μ' hp => by obtain ⟨z, rfl, hp⟩ := hp; exact k z μ' hp)
end GN
