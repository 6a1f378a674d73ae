/-! the reference's calls: change, letGo, cast -/
def getsX (μ : Mem) (p : Nat) (l pl w : Int) : Mem := mset (mset (mset μ 77 p l) 78 p pl) 79 p w
theorem vw_gets {μ : Mem} {p : Nat} {l pl w : Int} : vw (getsX μ p l pl w) = getsM (vw μ) p l pl w := by
  unfold getsX
  simp (disch := omega) only [vw_in]
  rfl
theorem kp_gets {μ : Mem} {p : Nat} {l pl w : Int} : KpX μ (getsX μ p l pl w) := by
  unfold getsX
  repeat first | exact KpX.rf | refine KpX_m ?_ (by omega)
set_option maxHeartbeats 4000000 in
theorem c_gets {lnch : Launch} {V : VX} (hI : InjV V) {μ : Mem} {p : Nat} {a b c : Int} (hp : p < 40) : Ct lnch yX7_gets cX7_gets 5 none 1 V [vr V 76, vi (p : Int), vi a, vi b, vi c] μ (pV (fun μ' => μ' = getsX μ p a b c)) := by
  refine Ct_of (by decide) hI (Nat.le_of_ble_eq_true rfl) (fun E hE hX hR => ?_)
  have hX : OkX V E RX7 cX7_gets 5 1 := hX
  show G V E μ 0 [some (vr V 76), some (vi (p : Int)), some (vi a), some (vi b), some (vi c)] []
  refine g_aload_n hX dX7_gets_0 rfl ?_
  refine gf_X7_7 hX dX7_gets_1 ?_
  refine g_iload_n hX dX7_gets_4 rfl ?_
  refine g_iload_n hX dX7_gets_5 rfl ?_
  refine g_iastN hX dX7_gets_6 (N := 40) rfl rfl (by omega) (by decide) ?_
  refine g_aload_n hX dX7_gets_7 rfl ?_
  refine gf_X7_13 hX dX7_gets_8 ?_
  refine g_iload_n hX dX7_gets_11 rfl ?_
  refine g_iload_n hX dX7_gets_12 rfl ?_
  refine g_iastN hX dX7_gets_13 (N := 40) rfl rfl (by omega) (by decide) ?_
  refine g_aload_n hX dX7_gets_14 rfl ?_
  refine gf_X7_16 hX dX7_gets_15 ?_
  refine g_iload_n hX dX7_gets_18 rfl ?_
  refine g_iload hX dX7_gets_19 rfl ?_
  refine g_iastN hX dX7_gets_21 (N := 40) rfl rfl (by omega) (by decide) ?_
  refine g_vret hX hR dX7_gets_22 ⟨rfl, rfl⟩
set_option maxHeartbeats 4000000 in
theorem m_change {lnch : Launch} {V : VX} (hI : InjV V) {μ : Mem} {c : Nat} {p l pl w : Int} (hM : IM c (vw μ)) (hp : in32 p) (hl : in32 l) (hpl : in32 pl) (hw : in32 w) : Ct lnch yX7_change cX7_change 7 (some .int) 4 V [vr V 76, vi p, vi l, vi pl, vi w] μ (pI (MP μ (spChange (vw μ) p l pl w))) := by
  refine Ct_of (by decide) hI (Nat.le_of_ble_eq_true rfl) (fun E hE hX hR => ?_)
  have hX : OkX V E RX7 cX7_change 7 4 := hX
  show G V E μ 0 [some (vr V 76), some (vi p), some (vi l), some (vi pl), some (vi w), none, none] []
  obtain ⟨N, hN40, hN, hmN⟩ := vw_n hM
  unfold spChange at hR
  have hl0 := hl
  have hpl0 := hpl
  have hw0 := hw
  obtain ⟨hl1, hl2⟩ := hl0
  obtain ⟨hpl1, hpl2⟩ := hpl0
  obtain ⟨hw1, hw2⟩ := hw0
  have no1 : ¬ ((0 ≤ p ∧ p < vw μ 0 0) ∧ areM l pl w) → G V E μ 18 [some (vr V 76), some (vi p), some (vi l), some (vi pl), some (vi w), none, none] [] := fun h => by
    rw [if_neg h] at hR
    refine g_iconst hX dX7_change_18 ?_
    refine g_iret hX hR dX7_change_19 ⟨_, rfl, rfl, rfl, KpX.rf⟩
  refine g_aload_n hX dX7_change_0 rfl ?_
  refine g_iload_n hX dX7_change_1 rfl ?_
  refine g_v1I hX lk_X7_114 dX7_change_2 (c0 := 7) ok76 ⟨_, rfl, rfl⟩ (c_isPart hI hN hN40 hp) (by first | decide | omega) (by decide) rfl (Nat.le_of_ble_eq_true rfl) (fun z μ' hp => ?_)
  obtain ⟨rfl, hm⟩ := hp
  rw [hm]
  clear hm μ'
  by_cases h1 : 0 ≤ p ∧ p < (N : Int)
  rotate_left
  · rw [if_neg h1]
    refine g_if_eq (tgt := 18) hX dX7_change_5 (by decide) ⟨by omega, by omega⟩ (fun _ => ?_) (fun hc => absurd hc (by omega))
    exact no1 (by omega)
  rw [if_pos h1]
  refine g_if_eq (tgt := 18) hX dX7_change_5 (by decide) ⟨by omega, by omega⟩ (fun hc => absurd hc (by omega)) (fun _ => ?_)
  refine g_iload_n hX dX7_change_8 rfl ?_
  refine g_iload_n hX dX7_change_9 rfl ?_
  refine g_iload hX dX7_change_10 rfl ?_
  refine g_s3I hX lk_X7_106 dX7_change_12 (c_areWell hI hl hpl hw) (by decide) (by decide) rfl (Nat.le_of_ble_eq_true rfl) (fun z μ' hp => ?_)
  obtain ⟨rfl, hm⟩ := hp
  rw [hm]
  clear hm μ'
  by_cases hz : areM l pl w
  rotate_left
  · rw [if_neg hz]
    refine g_if_ne (tgt := 20) hX dX7_change_15 (by decide) ⟨by omega, by omega⟩ (fun hc => absurd hc (by omega)) (fun _ => ?_)
    exact no1 (by omega)
  rw [if_pos hz]
  rw [if_pos ⟨by omega, hz⟩] at hR
  obtain ⟨q, rfl⟩ : ∃ q : Nat, p = (q : Int) := ⟨p.toNat, by omega⟩
  rw [show ((q : Int)).toNat = q from rfl] at hR
  have hq := IM_p hM (i := q) (by omega)
  have e1 : vw μ 1 q = μ 77 q := rfl
  have e2 : vw μ 2 q = μ 78 q := rfl
  have e3 : vw μ 3 q = μ 79 q := rfl
  have e4 : vw μ 4 q = μ 80 q := rfl
  have e5 : vw μ 5 q = μ 81 q := rfl
  have e8 : vw μ 8 q = μ 84 q := rfl
  have no : (vw μ 5 q = 4 ∨ vw μ 5 q = 6 ∨ vw μ 5 q = 5 ∨ vw μ 8 q = 1) → G V E μ 56 [some (vr V 76), some (vi (q : Int)), some (vi l), some (vi pl), some (vi w), some (vi (μ 81 q)), none] [] := fun h => by
    rw [if_pos h] at hR
    refine g_bipush hX dX7_change_56 rfl ?_
    refine g_iret hX hR dX7_change_58 ⟨_, rfl, rfl, rfl, KpX.rf⟩
  refine g_if_ne (tgt := 20) hX dX7_change_15 (by decide) ⟨by omega, by omega⟩ (fun _ => ?_) (fun hc => absurd hc (by omega))
  refine g_aload_n hX dX7_change_20 rfl ?_
  refine gf_X7_22 hX dX7_change_21 ?_
  refine g_iload_n hX dX7_change_24 rfl ?_
  refine g_ialdN hX dX7_change_25 (N := 40) rfl rfl (by omega) (by decide) ?_
  refine st_istore_7_5 hX dX7_change_26 (by first | exact ck_i _ | exact ck_r _ _ | exact ck_n | exact ck_0) ?_
  refine g_iload hX dX7_change_28 rfl ?_
  refine g_iconst hX dX7_change_30 ?_
  refine g_icmp_eq (tgt := 56) hX dX7_change_31 (by decide) ⟨by omega, by omega⟩ ⟨by omega, by omega⟩ (fun a1 => ?_) (fun a1 => ?_)
  · exact no (by omega)
  refine g_iload hX dX7_change_34 rfl ?_
  refine g_bipush hX dX7_change_36 rfl ?_
  refine g_icmp_eq (tgt := 56) hX dX7_change_38 (by decide) ⟨by omega, by omega⟩ ⟨by omega, by omega⟩ (fun a2 => ?_) (fun a2 => ?_)
  · exact no (by omega)
  refine g_iload hX dX7_change_41 rfl ?_
  refine g_iconst hX dX7_change_43 ?_
  refine g_icmp_eq (tgt := 56) hX dX7_change_44 (by decide) ⟨by omega, by omega⟩ ⟨by omega, by omega⟩ (fun a3 => ?_) (fun a3 => ?_)
  · exact no (by omega)
  refine g_aload_n hX dX7_change_47 rfl ?_
  refine gf_X7_31 hX dX7_change_48 ?_
  refine g_iload_n hX dX7_change_51 rfl ?_
  refine g_zaldN hX dX7_change_52 rfl (by omega) ?_
  refine g_if_eq (tgt := 59) hX dX7_change_53 (by decide) ⟨by omega, by omega⟩ (fun a4 => ?_) (fun a4 => ?_)
  rotate_left
  · exact no (by omega)
  rw [if_neg (by omega)] at hR
  have diff : ¬ (vw μ 1 q = l ∧ vw μ 2 q = pl ∧ vw μ 3 q = w) → G V E μ 92 [some (vr V 76), some (vi (q : Int)), some (vi l), some (vi pl), some (vi w), some (vi (μ 81 q)), none] [] := fun hd => by
    rw [if_neg hd] at hR
    refine g_iload hX dX7_change_92 rfl ?_
    refine g_if_ne (tgt := 108) hX dX7_change_94 (by decide) ⟨by omega, by omega⟩ (fun b1 => ?_) (fun b1 => ?_)
    rotate_left
    · rw [if_pos (show vw μ 5 q = 0 from b1)] at hR
      refine g_aload_n hX dX7_change_97 rfl ?_
      refine g_iload_n hX dX7_change_98 rfl ?_
      refine g_iload_n hX dX7_change_99 rfl ?_
      refine g_iload_n hX dX7_change_100 rfl ?_
      refine g_iload hX dX7_change_101 rfl ?_
      refine g_v4V hX lk_X7_204 dX7_change_103 (c0 := 7) ok76 ⟨_, rfl, rfl⟩ (c_gets hI (by omega)) (by first | decide | omega) (by decide) rfl (Nat.le_of_ble_eq_true rfl) (fun μ' hp => ?_)
      rw [hp]
      clear hp μ'
      refine g_iconst hX dX7_change_106 ?_
      refine g_iret hX hR dX7_change_107 ⟨_, rfl, rfl, vw_gets, kp_gets⟩
    rw [if_neg (show ¬ vw μ 5 q = 0 from b1)] at hR
    have big : ¬ (vw μ 2 q = pl ∧ l < vw μ 1 q ∧ w ≤ vw μ 3 q) → G V E μ 159 [some (vr V 76), some (vi (q : Int)), some (vi l), some (vi pl), some (vi w), some (vi (μ 81 q)), none] [] := fun hb => by
      rw [if_neg hb] at hR
      refine g_aload_n hX dX7_change_159 rfl ?_
      refine gf_X7_93 hX dX7_change_160 ?_
      refine g_bipush hX dX7_change_163 rfl ?_
      refine g_icmp_ne (tgt := 171) hX dX7_change_165 (by decide) ⟨by omega, by omega⟩ ⟨by omega, by omega⟩ (fun c1 => ?_) (fun c1 => ?_)
      rotate_left
      · rw [if_pos (by omega)] at hR
        refine g_bipush hX dX7_change_168 rfl ?_
        refine g_iret hX hR dX7_change_170 ⟨_, rfl, rfl, rfl, KpX.rf⟩
      rw [if_neg (by omega)] at hR
      have g5 : newM (vw μ) N l pl w (vw μ 4 q) 5 q = vw μ 5 q := newM_get (by omega) (by omega)
      have g6 : newM (vw μ) N l pl w (vw μ 4 q) 6 q = vw μ 6 q := newM_get (by omega) (by omega)
      rw [show (vw μ 0 0).toNat = N by omega] at hR
      unfold strkM at hR
      rw [g5, g6] at hR
      refine g_aload_n hX dX7_change_171 rfl ?_
      refine g_iload_n hX dX7_change_172 rfl ?_
      refine g_iload_n hX dX7_change_173 rfl ?_
      refine g_iload hX dX7_change_174 rfl ?_
      refine g_aload_n hX dX7_change_176 rfl ?_
      refine gf_X7_19 hX dX7_change_177 ?_
      refine g_iload_n hX dX7_change_180 rfl ?_
      refine g_ialdN hX dX7_change_181 (N := 40) rfl rfl (by omega) (by decide) ?_
      refine g_v4I hX lk_X7_110 dX7_change_182 (c0 := 7) ok76 ⟨_, rfl, rfl⟩ (c_comes hI hN (by omega)) (by first | decide | omega) (by decide) rfl (Nat.le_of_ble_eq_true rfl) (fun z μ' hp => ?_)
      obtain ⟨rfl, hm⟩ := hp
      rw [hm]
      clear hm μ'
      refine st_istore_7_6 hX dX7_change_185 (by first | exact ck_i _ | exact ck_r _ _ | exact ck_n | exact ck_0) ?_
      refine g_iload hX dX7_change_187 rfl ?_
      refine g_iconst hX dX7_change_189 ?_
      refine g_icmp_ne (tgt := 211) hX dX7_change_190 (by decide) ⟨by omega, by omega⟩ ⟨by omega, by omega⟩ (fun c2 => ?_) (fun c2 => ?_)
      · rw [if_neg (show ¬ vw μ 5 q = 2 from c2)] at hR
        refine g_aload_n hX dX7_change_211 rfl ?_
        refine gf_X7_31 hX dX7_change_212 ?_
        refine g_iload_n hX dX7_change_215 rfl ?_
        refine g_iconst hX dX7_change_216 ?_
        refine g_zastN hX dX7_change_217 (by first | exact Or.inl rfl | exact Or.inr rfl | assumption) rfl (by omega) ?_
        refine g_iload hX dX7_change_218 rfl ?_
        refine g_iconst hX dX7_change_220 ?_
        refine g_icmp_ne (tgt := 234) hX dX7_change_221 (by decide) ⟨by omega, by omega⟩ ⟨by omega, by omega⟩ (fun c3 => ?_) (fun c3 => ?_)
        · rw [if_neg (show ¬ vw μ 5 q = 3 from c3)] at hR
          refine g_bipush hX dX7_change_234 rfl ?_
          refine g_iload hX dX7_change_236 rfl ?_
          refine g_iadd hX dX7_change_238 ?_
          refine g_iret hX hR dX7_change_239 ⟨_, rfl, by rw [hmN], by rw [vw_in (by omega), vw_comes]; rfl, KpX_m kp_comes (by omega)⟩
        · rw [if_pos (show vw μ 5 q = 3 from c3)] at hR
          have hy := hM.2.2.2.1.2.1 q (by omega) c3
          have hys := hM.2.2.2.1.1 (vw μ 6 q).toNat (by omega)
          have e6 : (mset (comesX μ N l pl w (μ 80 q)) 84 q 1) 82 q = ((vw μ 6 q).toNat : Int) := by
            rw [mset_ne (Or.inl (by decide))]
            unfold comesX
            simp (disch := omega) only [mset_ne]
            rw [show μ 82 q = vw μ 6 q from rfl]
            omega
          have ev : vw (mset (comesX μ N l pl w (μ 80 q)) 84 q 1) = mset (newM (vw μ) N l pl w (vw μ 4 q)) 8 q 1 := by
            rw [vw_in (by omega), vw_comes]
            rfl
          have s2 : SI (vw (mset (comesX μ N l pl w (μ 80 q)) 84 q 1)) (vw μ 6 q).toNat (N + 1) := by
            rw [ev]
            refine ⟨?_, by omega, ?_, fun k hk => ?_, fun i hi => ?_⟩
            · rw [mset_ne (Or.inl (by decide))]; unfold newM; rw [mset_same]; rfl
            · rw [mset_ne (Or.inl (by decide)), newM_get (by omega) (by omega)]; exact hys.1
            · rw [mset_ne (Or.inl (by decide)), newM_get (by omega) (by omega)] at hk
              rw [mset_ne (Or.inl (by decide)), newM_get (by omega) (by omega)]
              have := hys.2.1 k hk
              omega
            · by_cases hiq : i = q
              · rw [hiq, mset_same]; exact Or.inr rfl
              · rw [mset_ne (Or.inr hiq), newM_get (by omega) (by omega)]
                by_cases hiN : i = N
                · exact Or.inl (hM.1.2.2 i (by omega) (by omega)).2
                · exact (IM_p hM (i := i) (by omega)).2.2.2.2.2.2
          refine g_aload_n hX dX7_change_224 rfl ?_
          refine g_aload_n hX dX7_change_225 rfl ?_
          refine gf_X7_25 hX dX7_change_226 ?_
          refine g_iload_n hX dX7_change_229 rfl ?_
          refine g_ialdN hX dX7_change_230 (N := 40) rfl rfl (by omega) (by decide) ?_
          rw [e6]
          refine g_v1V hX lk_X7_155 dX7_change_231 (c0 := 7) ok76 ⟨_, rfl, rfl⟩ (c_clears hI (by omega) s2) (by first | decide | omega) (by decide) rfl (Nat.le_of_ble_eq_true rfl) (fun μ' hp => ?_)
          obtain ⟨hp1, hp2⟩ := hp
          refine g_bipush hX dX7_change_234 rfl ?_
          refine g_iload hX dX7_change_236 rfl ?_
          refine g_iadd hX dX7_change_238 ?_
          refine g_iret hX hR dX7_change_239 ⟨_, rfl, by rw [hmN], by rw [hp1, ev], (KpX_m kp_comes (by omega)).tr hp2⟩
      · rw [if_pos (show vw μ 5 q = 2 from c2)] at hR
        refine g_aload_n hX dX7_change_193 rfl ?_
        refine gf_X7_22 hX dX7_change_194 ?_
        refine g_iload_n hX dX7_change_197 rfl ?_
        refine g_iconst hX dX7_change_198 ?_
        refine g_iastN hX dX7_change_199 (N := 40) rfl rfl (by omega) (by decide) ?_
        refine g_aload_n hX dX7_change_200 rfl ?_
        refine gf_X7_25 hX dX7_change_201 ?_
        refine g_iload_n hX dX7_change_204 rfl ?_
        refine g_bipush hX dX7_change_205 rfl ?_
        refine g_iastN hX dX7_change_207 (N := 40) rfl rfl (by omega) (by decide) ?_
        refine g_goto (tgt := 234) hX dX7_change_208 (by decide) ?_
        refine g_bipush hX dX7_change_234 rfl ?_
        refine g_iload hX dX7_change_236 rfl ?_
        refine g_iadd hX dX7_change_238 ?_
        refine g_iret hX hR dX7_change_239 ⟨_, rfl, by rw [hmN], by rw [vw_in (by omega), vw_in (by omega), vw_comes]; rfl, KpX_m (KpX_m kp_comes (by omega)) (by omega)⟩
    refine g_aload_n hX dX7_change_108 rfl ?_
    refine gf_X7_13 hX dX7_change_109 ?_
    refine g_iload_n hX dX7_change_112 rfl ?_
    refine g_ialdN hX dX7_change_113 (N := 40) rfl rfl (by omega) (by decide) ?_
    refine g_iload_n hX dX7_change_114 rfl ?_
    refine g_icmp_ne (tgt := 159) hX dX7_change_115 (by decide) ⟨by omega, by omega⟩ ⟨by omega, by omega⟩ (fun b2 => ?_) (fun b2 => ?_)
    · exact big (by omega)
    refine g_iload_n hX dX7_change_118 rfl ?_
    refine g_aload_n hX dX7_change_119 rfl ?_
    refine gf_X7_7 hX dX7_change_120 ?_
    refine g_iload_n hX dX7_change_123 rfl ?_
    refine g_ialdN hX dX7_change_124 (N := 40) rfl rfl (by omega) (by decide) ?_
    refine g_icmp_ge (tgt := 159) hX dX7_change_125 (by decide) ⟨by omega, by omega⟩ ⟨by omega, by omega⟩ (fun b3 => ?_) (fun b3 => ?_)
    · exact big (by omega)
    refine g_iload hX dX7_change_128 rfl ?_
    refine g_aload_n hX dX7_change_130 rfl ?_
    refine gf_X7_16 hX dX7_change_131 ?_
    refine g_iload_n hX dX7_change_134 rfl ?_
    refine g_ialdN hX dX7_change_135 (N := 40) rfl rfl (by omega) (by decide) ?_
    refine g_icmp_gt (tgt := 159) hX dX7_change_136 (by decide) ⟨by omega, by omega⟩ ⟨by omega, by omega⟩ (fun b4 => ?_) (fun b4 => ?_)
    · exact big (by omega)
    rw [if_pos (by omega)] at hR
    refine g_iload hX dX7_change_139 rfl ?_
    refine g_iconst hX dX7_change_141 ?_
    refine g_icmp_eq (tgt := 148) hX dX7_change_142 (by decide) ⟨by omega, by omega⟩ ⟨by omega, by omega⟩ (fun b5 => ?_) (fun b5 => ?_)
    · rw [if_pos (show vw μ 5 q = 2 from b5)] at hR
      refine g_aload_n hX dX7_change_148 rfl ?_
      refine g_iload_n hX dX7_change_149 rfl ?_
      refine g_iload_n hX dX7_change_150 rfl ?_
      refine g_iload_n hX dX7_change_151 rfl ?_
      refine g_iload hX dX7_change_152 rfl ?_
      refine g_v4V hX lk_X7_204 dX7_change_154 (c0 := 7) ok76 ⟨_, rfl, rfl⟩ (c_gets hI (by omega)) (by first | decide | omega) (by decide) rfl (Nat.le_of_ble_eq_true rfl) (fun μ' hp => ?_)
      rw [hp]
      clear hp μ'
      refine g_iconst hX dX7_change_157 ?_
      refine g_iret hX hR dX7_change_158 ⟨_, rfl, rfl, vw_gets, kp_gets⟩
    · rw [if_neg (show ¬ vw μ 5 q = 2 from b5)] at hR
      refine g_bipush hX dX7_change_145 rfl ?_
      refine g_iret hX hR dX7_change_147 ⟨_, rfl, rfl, rfl, KpX.rf⟩
  refine g_aload_n hX dX7_change_59 rfl ?_
  refine gf_X7_7 hX dX7_change_60 ?_
  refine g_iload_n hX dX7_change_63 rfl ?_
  refine g_ialdN hX dX7_change_64 (N := 40) rfl rfl (by omega) (by decide) ?_
  refine g_iload_n hX dX7_change_65 rfl ?_
  refine g_icmp_ne (tgt := 92) hX dX7_change_66 (by decide) ⟨by omega, by omega⟩ ⟨by omega, by omega⟩ (fun d1 => ?_) (fun d1 => ?_)
  · exact diff (by omega)
  refine g_aload_n hX dX7_change_69 rfl ?_
  refine gf_X7_13 hX dX7_change_70 ?_
  refine g_iload_n hX dX7_change_73 rfl ?_
  refine g_ialdN hX dX7_change_74 (N := 40) rfl rfl (by omega) (by decide) ?_
  refine g_iload_n hX dX7_change_75 rfl ?_
  refine g_icmp_ne (tgt := 92) hX dX7_change_76 (by decide) ⟨by omega, by omega⟩ ⟨by omega, by omega⟩ (fun d2 => ?_) (fun d2 => ?_)
  · exact diff (by omega)
  refine g_aload_n hX dX7_change_79 rfl ?_
  refine gf_X7_16 hX dX7_change_80 ?_
  refine g_iload_n hX dX7_change_83 rfl ?_
  refine g_ialdN hX dX7_change_84 (N := 40) rfl rfl (by omega) (by decide) ?_
  refine g_iload hX dX7_change_85 rfl ?_
  refine g_icmp_ne (tgt := 92) hX dX7_change_87 (by decide) ⟨by omega, by omega⟩ ⟨by omega, by omega⟩ (fun d3 => ?_) (fun d3 => ?_)
  · exact diff (by omega)
  rw [if_pos (by omega)] at hR
  refine g_iconst hX dX7_change_90 ?_
  refine g_iret hX hR dX7_change_91 ⟨_, rfl, rfl, rfl, KpX.rf⟩
set_option maxHeartbeats 4000000 in
theorem m_letGo {lnch : Launch} {V : VX} (hI : InjV V) {μ : Mem} {c : Nat} {b : Int} (hM : IM c (vw μ)) (hb : in32 b) : Ct lnch yX7_letGo cX7_letGo 5 (some .int) 2 V [vr V 76, vi b] μ (pI (MP μ (spLetGo (vw μ) b))) := by
  refine Ct_of (by decide) hI (Nat.le_of_ble_eq_true rfl) (fun E hE hX hR => ?_)
  have hX : OkX V E RX7 cX7_letGo 5 2 := hX
  show G V E μ 0 [some (vr V 76), some (vi b), none, none, none] []
  obtain ⟨N, hN40, hN, hmN⟩ := vw_n hM
  unfold spLetGo at hR
  obtain ⟨hb1, hb2⟩ := hb
  refine g_iload_n hX dX7_letGo_0 rfl ?_
  refine g_i2l hX dX7_letGo_1 ⟨by omega, by omega⟩ ?_
  refine g_lconst hX dX7_letGo_2 (z := 0) rfl ?_
  refine g_ldc2 (z := 2) hX dX7_letGo_3 tw_660 ?_
  refine g_s3I hX lk_X7_96 dX7_letGo_6 (c_in hI ⟨by omega, by omega⟩ ⟨by decide, by decide⟩ ⟨by decide, by decide⟩) (by decide) (by decide) rfl (Nat.le_of_ble_eq_true rfl) (fun z μ' hp => ?_)
  obtain ⟨rfl, hm⟩ := hp
  rw [hm]
  clear hm μ'
  by_cases h1 : 0 ≤ b ∧ b ≤ 2
  rotate_left
  · rw [if_neg h1]
    rw [if_neg (by omega)] at hR
    refine g_if_ne (tgt := 14) hX dX7_letGo_9 (by decide) ⟨by omega, by omega⟩ (fun hc => absurd hc (by omega)) (fun _ => ?_)
    refine g_iconst hX dX7_letGo_12 ?_
    refine g_iret hX hR dX7_letGo_13 ⟨_, rfl, rfl, rfl, KpX.rf⟩
  rw [if_pos h1]
  rw [if_pos (by omega)] at hR
  obtain ⟨t, rfl⟩ : ∃ t : Nat, b = (t : Int) := ⟨b.toNat, by omega⟩
  rw [show ((t : Int)).toNat = t from rfl] at hR
  have ht3 : t < 3 := by omega
  have hy := hM.2.2.1 t ht3
  obtain ⟨q1, q2, q3⟩ := bed_q hM ht3 hmN
  have hs := hM.2.1.1
  have e9 : vw μ 9 t = μ 85 t := rfl
  have e11 : vw μ 11 t = μ 87 t := rfl
  have e12 : vw μ 12 t = μ 88 t := rfl
  have e14 : vw μ 0 14 = μ 76 14 := rfl
  obtain ⟨K, hK⟩ : ∃ K : Nat, μ 85 t = (K : Int) := ⟨(μ 85 t).toNat, by omega⟩
  have no : (vw μ 9 t = 0 ∨ vw μ 11 t < 500 ∨ vw μ 0 14 - vw μ 12 t < 12) → G V E μ 51 [some (vr V 76), some (vi (t : Int)), none, none, none] [] := fun h => by
    rw [if_pos h] at hR
    refine g_bipush hX dX7_letGo_51 rfl ?_
    refine g_iret hX hR dX7_letGo_53 ⟨_, rfl, rfl, rfl, KpX.rf⟩
  refine g_if_ne (tgt := 14) hX dX7_letGo_9 (by decide) ⟨by omega, by omega⟩ (fun _ => ?_) (fun hc => absurd hc (by omega))
  refine g_aload_n hX dX7_letGo_14 rfl ?_
  refine gf_X7_35 hX dX7_letGo_15 ?_
  refine g_iload_n hX dX7_letGo_18 rfl ?_
  refine g_ialdN hX dX7_letGo_19 (N := 3) rfl rfl (by omega) (by decide) ?_
  refine g_if_eq (tgt := 51) hX dX7_letGo_20 (by decide) ⟨by omega, by omega⟩ (fun a1 => ?_) (fun a1 => ?_)
  · exact no (by omega)
  refine g_aload_n hX dX7_letGo_23 rfl ?_
  refine gf_X7_41 hX dX7_letGo_24 ?_
  refine g_iload_n hX dX7_letGo_27 rfl ?_
  refine g_ialdN hX dX7_letGo_28 (N := 3) rfl rfl (by omega) (by decide) ?_
  refine g_sipush hX dX7_letGo_29 rfl ?_
  refine g_icmp_lt (tgt := 51) hX dX7_letGo_32 (by decide) ⟨by omega, by omega⟩ ⟨by omega, by omega⟩ (fun a2 => ?_) (fun a2 => ?_)
  · exact no (by omega)
  refine g_aload_n hX dX7_letGo_35 rfl ?_
  refine gf_X7_135 hX dX7_letGo_36 ?_
  refine g_aload_n hX dX7_letGo_39 rfl ?_
  refine gf_X7_44 hX dX7_letGo_40 ?_
  refine g_iload_n hX dX7_letGo_43 rfl ?_
  refine g_ialdN hX dX7_letGo_44 (N := 3) rfl rfl (by omega) (by decide) ?_
  refine g_isub hX dX7_letGo_45 ?_
  refine g_bipush hX dX7_letGo_46 rfl ?_
  refine g_icmp_ge (tgt := 54) hX dX7_letGo_48 (by decide) ⟨by omega, by omega⟩ ⟨by omega, by omega⟩ (fun a3 => ?_) (fun a3 => ?_)
  rotate_left
  · exact no (by omega)
  rw [if_neg (by omega)] at hR
  have loop : ∀ (d k : Nat) (ν : Mem), k + d = K → vw ν = lgK (vw μ) t k → KpX μ ν → G V E ν 58 [some (vr V 76), some (vi (t : Int)), some (vi (looseK (vw μ) t k)), some (vi (k : Int)), none] [] := by
    intro d
    induction d with
    | zero =>
      intro k ν hk hv hkp
      have f9 : ν 85 t = (K : Int) := by
        have : vw ν 9 t = vw μ 9 t := by rw [hv]; exact lgK_ne _ _ (by omega) k
        rw [← hK]; exact this
      refine g_iload_n hX dX7_letGo_58 rfl ?_
      refine g_aload_n hX dX7_letGo_59 rfl ?_
      refine gf_X7_35 hX dX7_letGo_60 ?_
      refine g_iload_n hX dX7_letGo_63 rfl ?_
      refine g_ialdN hX dX7_letGo_64 (N := 3) rfl rfl (by omega) (by decide) ?_
      refine g_icmp_ge (tgt := 187) hX dX7_letGo_65 (by decide) ⟨by omega, by omega⟩ ⟨by omega, by omega⟩ (fun _ => ?_) (fun hc => absurd hc (by omega))
      refine g_aload_n hX dX7_letGo_187 rfl ?_
      refine gf_X7_35 hX dX7_letGo_188 ?_
      refine g_iload_n hX dX7_letGo_191 rfl ?_
      refine g_iconst hX dX7_letGo_192 ?_
      refine g_iastN hX dX7_letGo_193 (N := 3) rfl rfl (by omega) (by decide) ?_
      refine g_aload_n hX dX7_letGo_194 rfl ?_
      refine gf_X7_41 hX dX7_letGo_195 ?_
      refine g_iload_n hX dX7_letGo_198 rfl ?_
      refine g_iconst hX dX7_letGo_199 ?_
      refine g_iastN hX dX7_letGo_200 (N := 3) rfl rfl (by omega) (by decide) ?_
      refine g_iload_n hX dX7_letGo_201 rfl ?_
      refine g_iret hX hR dX7_letGo_202 ⟨_, rfl, ?_, ?_, KpX_m (KpX_m hkp (by omega)) (by omega)⟩
      · show looseK (vw μ) t k = looseK (vw μ) t (vw μ 9 t).toNat
        rw [show (vw μ 9 t).toNat = k by omega]
      · rw [vw_in (by omega), vw_in (by omega), hv]
        show _ = mset (mset (lgK (vw μ) t (vw μ 9 t).toNat) 9 t 0) 11 t 0
        rw [show (vw μ 9 t).toNat = k by omega]
    | succ d ih =>
      intro k ν hk hv hkp
      have fv : ∀ c j, vw ν c j = lgK (vw μ) t k c j := fun c j => by rw [hv]
      have f9 : ν 85 t = (K : Int) := by
        have : vw ν 9 t = vw μ 9 t := by rw [hv]; exact lgK_ne _ _ (by omega) k
        rw [← hK]; exact this
      have hq := q1 k (by omega)
      have f10 : ν 86 (40 * t + k) = (qB (vw μ) t k : Int) := by
        have : vw ν 10 (40 * t + k) = vw μ 10 (40 * t + k) := by rw [hv]; exact lgK_ne _ _ (by omega) k
        rw [← hq.1]; exact this
      have hqp := IM_p hM (i := qB (vw μ) t k) (by omega)
      have ho : ∀ c, lgK (vw μ) t k c (qB (vw μ) t k) = vw μ c (qB (vw μ) t k) := fun c => lgK_out _ _ k (fun j hj e => by
        have h3 := q2 (k - (j + 1)) j (by omega)
        rw [show j + 1 + (k - (j + 1)) = k by omega, e] at h3
        omega)
      have f1 : ν 77 (qB (vw μ) t k) = vw μ 1 (qB (vw μ) t k) := by rw [← ho 1, ← fv]; rfl
      have f2 : ν 78 (qB (vw μ) t k) = vw μ 2 (qB (vw μ) t k) := by rw [← ho 2, ← fv]; rfl
      have f8 : ν 84 (qB (vw μ) t k) = vw μ 8 (qB (vw μ) t k) := by rw [← ho 8, ← fv]; rfl
      have f11 : ν 87 t = vw μ 11 t := by
        have : vw ν 11 t = vw μ 11 t := by rw [hv]; exact lgK_ne _ _ (by omega) k
        exact this
      have g1 : 0 ≤ vw μ 1 (qB (vw μ) t k) * vw μ 1 (qB (vw μ) t k) := Int.mul_nonneg (by omega) (by omega)
      have g2 : vw μ 1 (qB (vw μ) t k) * vw μ 1 (qB (vw μ) t k) ≤ 200 * 200 := Int.mul_le_mul (by omega) (by omega) (by omega) (by decide)
      have g3 : 0 ≤ vw μ 1 (qB (vw μ) t k) * vw μ 1 (qB (vw μ) t k) * (vw μ 2 (qB (vw μ) t k) + 1) := Int.mul_nonneg g1 (by omega)
      have g4 : vw μ 1 (qB (vw μ) t k) * vw μ 1 (qB (vw μ) t k) * (vw μ 2 (qB (vw μ) t k) + 1) ≤ (200 * 200) * 8 := Int.mul_le_mul g2 (by omega) (by omega) (by decide)
      refine g_iload_n hX dX7_letGo_58 rfl ?_
      refine g_aload_n hX dX7_letGo_59 rfl ?_
      refine gf_X7_35 hX dX7_letGo_60 ?_
      refine g_iload_n hX dX7_letGo_63 rfl ?_
      refine g_ialdN hX dX7_letGo_64 (N := 3) rfl rfl (by omega) (by decide) ?_
      refine g_icmp_ge (tgt := 187) hX dX7_letGo_65 (by decide) ⟨by omega, by omega⟩ ⟨by omega, by omega⟩ (fun hc => absurd hc (by omega)) (fun _ => ?_)
      refine g_aload_n hX dX7_letGo_68 rfl ?_
      refine gf_X7_38 hX dX7_letGo_69 ?_
      refine g_bipush hX dX7_letGo_72 rfl ?_
      refine g_iload_n hX dX7_letGo_74 rfl ?_
      refine g_imul hX dX7_letGo_75 ?_
      refine g_iload_n hX dX7_letGo_76 rfl ?_
      refine g_iadd hX dX7_letGo_77 ?_
      refine g_ialdN (i := (40 * t + k)) hX dX7_letGo_78 (N := 120) rfl (by omega) (by omega) (by decide) ?_
      rw [f10]
      refine st_istore_5_4 hX dX7_letGo_79 (by first | exact ck_i _ | exact ck_r _ _ | exact ck_n | exact ck_0) ?_
      refine g_aload_n hX dX7_letGo_81 rfl ?_
      refine gf_X7_28 hX dX7_letGo_82 ?_
      refine g_iload hX dX7_letGo_85 rfl ?_
      refine g_aload_n hX dX7_letGo_87 rfl ?_
      refine gf_X7_7 hX dX7_letGo_88 ?_
      refine g_iload hX dX7_letGo_91 rfl ?_
      refine g_ialdN hX dX7_letGo_93 (N := 40) rfl rfl (by omega) (by decide) ?_
      rw [f1]
      refine g_aload_n hX dX7_letGo_94 rfl ?_
      refine gf_X7_7 hX dX7_letGo_95 ?_
      refine g_iload hX dX7_letGo_98 rfl ?_
      refine g_ialdN hX dX7_letGo_100 (N := 40) rfl rfl (by omega) (by decide) ?_
      rw [f1]
      refine g_imul hX dX7_letGo_101 ?_
      refine g_aload_n hX dX7_letGo_102 rfl ?_
      refine gf_X7_13 hX dX7_letGo_103 ?_
      refine g_iload hX dX7_letGo_106 rfl ?_
      refine g_ialdN hX dX7_letGo_108 (N := 40) rfl rfl (by omega) (by decide) ?_
      rw [f2]
      refine g_iconst hX dX7_letGo_109 ?_
      refine g_iadd hX dX7_letGo_110 ?_
      refine g_imul hX dX7_letGo_111 ?_
      refine g_aload_n hX dX7_letGo_112 rfl ?_
      refine gf_X7_41 hX dX7_letGo_113 ?_
      refine g_iload_n hX dX7_letGo_116 rfl ?_
      refine g_ialdN hX dX7_letGo_117 (N := 3) rfl rfl (by omega) (by decide) ?_
      rw [f11]
      refine g_sipush hX dX7_letGo_118 rfl ?_
      refine g_iadd hX dX7_letGo_121 ?_
      refine g_idiv hX dX7_letGo_122 ⟨by omega, by omega⟩ ⟨by omega, by omega⟩ g3 (by omega) ?_
      refine g_iastN hX dX7_letGo_123 (N := 40) rfl rfl (by omega) (by decide) ?_
      refine g_aload_n hX dX7_letGo_124 rfl ?_
      refine gf_X7_25 hX dX7_letGo_125 ?_
      refine g_iload hX dX7_letGo_128 rfl ?_
      refine g_bipush hX dX7_letGo_130 rfl ?_
      refine g_iastN hX dX7_letGo_132 (N := 40) rfl rfl (by omega) (by decide) ?_
      refine g_aload_n hX dX7_letGo_133 rfl ?_
      refine gf_X7_22 hX dX7_letGo_134 ?_
      refine g_iload hX dX7_letGo_137 rfl ?_
      refine g_aload_n hX dX7_letGo_139 rfl ?_
      refine gf_X7_31 hX dX7_letGo_140 ?_
      refine g_iload hX dX7_letGo_143 rfl ?_
      refine g_zaldN hX dX7_letGo_145 rfl (by omega) ?_
      simp (disch := omega) only [mset_ne, mset_same]
      rw [f8]
      have tail : ∀ (x y : Int), x = (if vw μ 8 (qB (vw μ) t k) = 1 then 5 else 2) → y = (if vw μ 8 (qB (vw μ) t k) = 1 then 0 else 1) → True := fun _ _ _ _ => trivial
      refine g_if_eq (tgt := 153) hX dX7_letGo_146 (by decide) ⟨by omega, by omega⟩ (fun b1 => ?_) (fun b1 => ?_)
      · refine g_iconst hX dX7_letGo_153 ?_
        refine g_iastN hX dX7_letGo_154 (N := 40) rfl rfl (by omega) (by decide) ?_
        refine g_iload_n hX dX7_letGo_155 rfl ?_
        refine g_aload_n hX dX7_letGo_156 rfl ?_
        refine gf_X7_31 hX dX7_letGo_157 ?_
        refine g_iload hX dX7_letGo_160 rfl ?_
        refine g_zaldN hX dX7_letGo_162 rfl (by omega) ?_
        simp (disch := omega) only [mset_ne, mset_same]
        rw [f8]
        refine g_if_eq (tgt := 170) hX dX7_letGo_163 (by decide) ⟨by omega, by omega⟩ (fun _ => ?_) (fun hc => absurd hc (by omega))
        refine g_iconst hX dX7_letGo_170 ?_
        refine g_iadd hX dX7_letGo_171 ?_
        refine st_istore_n_5_2 hX dX7_letGo_172 (by first | exact ck_i _ | exact ck_r _ _ | exact ck_n | exact ck_0) ?_
        refine g_aload_n hX dX7_letGo_173 rfl ?_
        refine gf_X7_31 hX dX7_letGo_174 ?_
        refine g_iload hX dX7_letGo_177 rfl ?_
        refine g_iconst hX dX7_letGo_179 ?_
        refine g_zastN hX dX7_letGo_180 (by first | exact Or.inl rfl | exact Or.inr rfl | assumption) rfl (by omega) ?_
        refine st_iinc_5_3 hX dX7_letGo_181 (by first | exact ck_i _ | exact ck_r _ _ | exact ck_n | exact ck_0) ?_
        refine g_goto (tgt := 58) hX dX7_letGo_184 (by decide) ?_
        refine fg_5_4 ?_
        have := ih (k + 1) (mset (mset (mset (mset ν 83 (qB (vw μ) t k) (camV (vw μ) t (qB (vw μ) t k))) 82 (qB (vw μ) t k) (-4)) 81 (qB (vw μ) t k) 2) 84 (qB (vw μ) t k) 0) (by omega) (by
          rw [vw_in (by omega), vw_in (by omega), vw_in (by omega), vw_in (by omega), hv]
          show _ = mset (mset (mset (mset (lgK (vw μ) t k) 7 (qB (vw μ) t k) (camV (vw μ) t (qB (vw μ) t k))) 6 (qB (vw μ) t k) (-4)) 5 (qB (vw μ) t k) (if vw μ 8 (qB (vw μ) t k) = 1 then 5 else 2)) 8 (qB (vw μ) t k) 0
          rw [if_neg (by omega)]) (KpX_m (KpX_m (KpX_m (KpX_m hkp (by omega)) (by omega)) (by omega)) (by omega))
        rw [show looseK (vw μ) t (k + 1) = looseK (vw μ) t k + 1 by
          show looseK (vw μ) t k + (if vw μ 8 (qB (vw μ) t k) = 1 then 0 else 1) = _
          rw [if_neg (by omega)]] at this
        exact this
      · refine g_iconst hX dX7_letGo_149 ?_
        refine g_goto (tgt := 154) hX dX7_letGo_150 (by decide) ?_
        refine g_iastN hX dX7_letGo_154 (N := 40) rfl rfl (by omega) (by decide) ?_
        refine g_iload_n hX dX7_letGo_155 rfl ?_
        refine g_aload_n hX dX7_letGo_156 rfl ?_
        refine gf_X7_31 hX dX7_letGo_157 ?_
        refine g_iload hX dX7_letGo_160 rfl ?_
        refine g_zaldN hX dX7_letGo_162 rfl (by omega) ?_
        simp (disch := omega) only [mset_ne, mset_same]
        rw [f8]
        refine g_if_eq (tgt := 170) hX dX7_letGo_163 (by decide) ⟨by omega, by omega⟩ (fun hc => absurd hc (by omega)) (fun _ => ?_)
        refine g_iconst hX dX7_letGo_166 ?_
        refine g_goto (tgt := 171) hX dX7_letGo_167 (by decide) ?_
        refine g_iadd hX dX7_letGo_171 ?_
        refine st_istore_n_5_2 hX dX7_letGo_172 (by first | exact ck_i _ | exact ck_r _ _ | exact ck_n | exact ck_0) ?_
        refine g_aload_n hX dX7_letGo_173 rfl ?_
        refine gf_X7_31 hX dX7_letGo_174 ?_
        refine g_iload hX dX7_letGo_177 rfl ?_
        refine g_iconst hX dX7_letGo_179 ?_
        refine g_zastN hX dX7_letGo_180 (by first | exact Or.inl rfl | exact Or.inr rfl | assumption) rfl (by omega) ?_
        refine st_iinc_5_3 hX dX7_letGo_181 (by first | exact ck_i _ | exact ck_r _ _ | exact ck_n | exact ck_0) ?_
        refine g_goto (tgt := 58) hX dX7_letGo_184 (by decide) ?_
        refine fg_5_4 ?_
        have := ih (k + 1) (mset (mset (mset (mset ν 83 (qB (vw μ) t k) (camV (vw μ) t (qB (vw μ) t k))) 82 (qB (vw μ) t k) (-4)) 81 (qB (vw μ) t k) 5) 84 (qB (vw μ) t k) 0) (by omega) (by
          rw [vw_in (by omega), vw_in (by omega), vw_in (by omega), vw_in (by omega), hv]
          show _ = mset (mset (mset (mset (lgK (vw μ) t k) 7 (qB (vw μ) t k) (camV (vw μ) t (qB (vw μ) t k))) 6 (qB (vw μ) t k) (-4)) 5 (qB (vw μ) t k) (if vw μ 8 (qB (vw μ) t k) = 1 then 5 else 2)) 8 (qB (vw μ) t k) 0
          rw [if_pos (by omega)]) (KpX_m (KpX_m (KpX_m (KpX_m hkp (by omega)) (by omega)) (by omega)) (by omega))
        rw [show looseK (vw μ) t (k + 1) = looseK (vw μ) t k + 0 by
          show looseK (vw μ) t k + (if vw μ 8 (qB (vw μ) t k) = 1 then 0 else 1) = _
          rw [if_pos (by omega)]] at this
        exact this
  refine g_iconst hX dX7_letGo_54 ?_
  refine st_istore_n_5_2 hX dX7_letGo_55 (by first | exact ck_i _ | exact ck_r _ _ | exact ck_n | exact ck_0) ?_
  refine g_iconst hX dX7_letGo_56 ?_
  refine st_istore_n_5_3 hX dX7_letGo_57 (by first | exact ck_i _ | exact ck_r _ _ | exact ck_n | exact ck_0) ?_
  exact loop K 0 μ (by omega) rfl KpX.rf
