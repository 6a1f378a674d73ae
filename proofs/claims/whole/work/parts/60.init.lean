/-! the reference's constructor, whole -/
def mu7 : Mem := fun q j => if q = 76 ∧ j = 13 then 15 else 0
def MGc (V : VX) (C : CM) : CM := fun q => if 76 ≤ q ∧ q < 103 then some (celR V q (mu7 q)) else C q
set_option maxHeartbeats 2000000 in
theorem i_model {lnch : Launch} {V : VX} (hI : InjV V) {h : Nat} {C : CM} (hC : C 76 = some (.inr (7, blkF7))) (hq : ∀ j, j < 26 → V.2.1 (77 + j) = h + j) : CtN lnch yX7_init cX7_init 1 1 V 76 C h (MGc V C) 26 4949 := by
  refine CtN_of (by decide) hI (by decide) (fun E hE hX hR hnm hKN hcl hsl => ?_)
  have hX : OkX V E RX7 cX7_init 1 1 := hX
  have hnm : E.2.2.1.2.1.name = "<init>" := hnm
  show GN V E C h 0 0 0 [some (vr V 76)] []
  refine n_aload_n hX dX7_init_0 rfl ?_
  refine n_objInit hX rfl dX7_init_1 tw_509 tw_16 tw_17 (by omega) (Nat.le_of_ble_eq_true rfl) ?_
  refine n_eq (C' := MGa V C 0 [vi 0, .null, .null, .null, .null, .null, .null, .null, .null, .null, .null, .null, .null, vi 0, vi 0, .null, .null, vi 0, .null, vi 0, vi 0, vi 0, .null, .null, .null, .null, vi 0, .null, .null, .null, .null, .null, .null, .null]) ?_ rfl rfl rfl ?_
  · funext q
    unfold MGa
    by_cases e : q = 76
    · rw [e, if_pos rfl, hC]; rfl
    · rw [if_neg e, if_neg (by omega)]
  refine mo_4 hX hnm (by omega) (by omega) (by have := hq 0 (by decide); omega) ?_
  refine mo_12 hX hnm (by omega) (by omega) (by have := hq 1 (by decide); omega) ?_
  refine mo_20 hX hnm (by omega) (by omega) (by have := hq 2 (by decide); omega) ?_
  refine mo_28 hX hnm (by omega) (by omega) (by have := hq 3 (by decide); omega) ?_
  refine mo_36 hX hnm (by omega) (by omega) (by have := hq 4 (by decide); omega) ?_
  refine mo_44 hX hnm (by omega) (by omega) (by have := hq 5 (by decide); omega) ?_
  refine mo_52 hX hnm (by omega) (by omega) (by have := hq 6 (by decide); omega) ?_
  refine mo_60 hX hnm (by omega) (by omega) (by have := hq 7 (by decide); omega) ?_
  refine mo_68 hX hnm (by omega) (by omega) (by have := hq 8 (by decide); omega) ?_
  refine mo_75 hX hnm (by omega) (by omega) (by have := hq 9 (by decide); omega) ?_
  refine mo_83 hX hnm (by omega) (by omega) (by have := hq 10 (by decide); omega) ?_
  refine mo_90 hX hnm (by omega) (by omega) (by have := hq 11 (by decide); omega) ?_
  refine mo_97 hX hnm (by omega) (by omega) (by have := hq 12 (by decide); omega) ?_
  refine mo_103 hX hnm (by omega) (by omega) (by have := hq 12 (by decide); omega) ?_
  refine mo_110 hX hnm (by omega) (by omega) (by have := hq 13 (by decide); omega) ?_
  refine mo_118 hX hnm (by omega) (by omega) (by have := hq 14 (by decide); omega) ?_
  refine mo_125 hX hnm (by omega) (by omega) (by have := hq 15 (by decide); omega) ?_
  refine mo_133 hX hnm (by omega) (by omega) (by have := hq 16 (by decide); omega) ?_
  refine mo_142 hX hnm (by omega) (by omega) (by have := hq 17 (by decide); omega) ?_
  refine mo_150 hX hnm (by omega) (by omega) (by have := hq 18 (by decide); omega) ?_
  refine mo_158 hX hnm (by omega) (by omega) (by have := hq 19 (by decide); omega) ?_
  refine mo_165 hX hnm (by omega) (by omega) (by have := hq 20 (by decide); omega) ?_
  refine mo_173 hX hnm (by omega) (by omega) (by have := hq 21 (by decide); omega) ?_
  refine mo_181 hX hnm (by omega) (by omega) (by have := hq 22 (by decide); omega) ?_
  refine mo_189 hX hnm (by omega) (by omega) (by have := hq 23 (by decide); omega) ?_
  refine mo_198 hX hnm (by omega) (by omega) (by have := hq 24 (by decide); omega) ?_
  refine mo_206 hX hnm (by omega) (by omega) (by have := hq 25 (by decide); omega) ?_
  refine n_eq ?_ rfl rfl rfl (n_vret hX hR dX7_init_214)
  funext q
  unfold MGa MGc
  by_cases e : q = 76
  · rw [e, if_pos rfl, if_pos (by decide)]; rfl
  · rw [if_neg e]
    by_cases e2 : 77 ≤ q ∧ q < 77 + 26
    · rw [if_pos e2, if_pos (by omega)]
      have : mu7 q = fun _ => 0 := by
        funext j
        unfold mu7
        rw [if_neg (fun x => e x.1)]
      rw [this]
    · rw [if_neg e2, if_neg (by omega)]
