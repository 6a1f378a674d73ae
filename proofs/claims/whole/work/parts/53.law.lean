/-! a call of the script, on both -/
def ScrX (E : EX) (b Ls : Nat) (xs : Nat → Int32) : Prop := va_X b Ls xs E.2.1.1 E.2.1.1.heap ∧ b < E.2.1.1.heap.size ∧ ¬ E.2.2.2.2.1 b ∧ Ls ≤ 2560
section LW
variable {V : VX} {E : EX} {own : String} {cc : ByteArray} {n lvl pc : Nat} {μ : Mem} {L : List (Option Value)} {st : List Value}
theorem g_scr (hX : OkX V E own cc n lvl) {i : Fin 4} (d : decode cc pc = .ok (.aload_n i, 1)) {a : Nat} (hi : L[(i : Nat)]? = some (some (.ref a))) (k : G V E μ (pc + 1) L (.ref a :: st)) : G V E μ pc L st := by
  intro H locs ls hP hS hl
  exact lv_aload_n hX.1 hX.2.1 d rfl (hl.at hi) (k H locs ls hP hS hl)
theorem g_sld {b Ls i : Nat} {xs : Nat → Int32} (hX : OkX V E own cc n lvl) (hs : ScrX E b Ls xs) (d : decode cc pc = .ok (.iaload, 1)) {a : Int} (ha : a = (i : Int)) (hi : i < Ls) (k : G V E μ (pc + 1) L (vi (xs i).toInt :: st)) : G V E μ pc L (vi a :: .ref b :: st) := by
  intro H locs ls hP hS hl
  obtain ⟨h1, h2, h3, h4⟩ := hs
  subst ha
  refine va_sld hX.1 hX.2.1 h1 h2 h3 hS (i_in (by omega) (by omega) (by omega)) d ?_
  rw [i_cl ⟨by omega, by omega⟩ (by omega), show ((i : Int)).toNat = i from rfl]
  have := k H locs ls hP hS hl
  unfold vi at this
  rw [iT] at this
  exact this
theorem g_slen {b Ls : Nat} {xs : Nat → Int32} (hX : OkX V E own cc n lvl) (hs : ScrX E b Ls xs) (d : decode cc pc = .ok (.arraylength, 1)) (k : G V E μ (pc + 1) L (vi (Ls : Int) :: st)) : G V E μ pc L (.ref b :: st) := by
  intro H locs ls hP hS hl
  obtain ⟨h1, h2, h3, h4⟩ := hs
  exact va_slen hX.1 hX.2.1 h1 h2 h3 hS d (k H locs ls hP hS hl)
theorem g_same (hX : OkX V E own cc n lvl) {off : Int} {tgt : Nat} (d : decode cc pc = .ok (.if_icmp .eq off, 3)) (ht : (pc : Int) + off = (tgt : Int)) {a : Int} (k : G V E μ tgt L st) : G V E μ pc L (vi a :: vi a :: st) := by
  intro H locs ls hP hS hl
  exact lv_icmp_eq hX.1 hX.2.1 d ht (fun _ => k H locs ls hP hS hl) (fun h => absurd rfl h)
end LW
theorem l64 (x : Int64) : x = Int64.ofInt x.toInt := (Int64.ofInt_toInt x).symm
theorem l64r (x : Int64) : in64 x.toInt := ⟨Int64.minValue_le_toInt x, Int64.toInt_le x⟩
theorem ScM_vw {μ μ' : Mem} (h : ScM μ μ') : (∀ k, 1 ≤ k → k ≤ 15 → vw μ' k = vw μ k) ∧ (∀ j, j ≠ 21 → j ≠ 26 → vw μ' 0 j = vw μ 0 j) ∧ vw μ' 17 0 = vw μ 17 0 := ⟨fun k a b => h.1 (76 + k) (by omega) (by omega), h.2.1, h.2.2⟩
theorem ScM_im {j : Nat} {μ μ' : Mem} (h : ScM μ μ') (hM : IM j (vw μ)) : IM (j + 1) (vw μ') := by
  obtain ⟨h1, h2, h3⟩ := ScM_vw h
  exact IM_up (IM_scr hM h1 h2 h3)
theorem ScM_rel {μ μ' : Mem} (h : ScM μ μ') (hk : KpX μ μ') (hR : RelXM μ (vw μ)) : RelXM μ' (vw μ') := by
  obtain ⟨h1, h2, -⟩ := ScM_vw h
  exact R_scrM (R_scr hR (fun q hq => hk q (by omega))) h1 h2
theorem sp_id_told {c : Nat} {m : Mem} {a b : Int} (h : IM c m) : IM c (spTold m a b).2 := by unfold spTold; split <;> exact h
theorem sp_id_at {c : Nat} {m : Mem} {a b : Int} (h : IM c m) : IM c (spAt m a b).2 := by unfold spAt; split <;> exact h
theorem sp_id_bed {c : Nat} {m : Mem} {a b : Int} (h : IM c m) : IM c (spBed m a b).2 := by unfold spBed; split <;> exact h
theorem sp_id_count {c : Nat} {m : Mem} {a : Int} (h : IM c m) : IM c (spCount m a).2 := by unfold spCount; split <;> exact h
theorem sp_id_lorry {c : Nat} {m : Mem} {a : Int} (h : IM c m) : IM c (spLorry m a).2 := h
theorem law_part {V : VX} {E : EX} {n lvl Ls j i b : Nat} {xs : Nat → Int32} {μ : Mem} (hX : OkX V E RL cL_law 4 lvl) (hI : InjV V) (hlv : 51 < lvl) (hs : ScrX E b Ls xs) (hi : i + 4 < Ls) (hj : j ≤ 100000) (hM : IM j (vw μ)) (hR : RelXM μ (vw μ))
    (k : ∀ μ', IM (j + 1) (vw μ') → RelXM μ' (vw μ') → G V E μ' 714 [some (.ref b), some (vr V 63), some (vr V 76), some (vi (i : Int))] []) : G V E μ 120 [some (.ref b), some (vr V 63), some (vr V 76), some (vi (i : Int))] [] := by
  refine g_aload_n hX dL_law_120 rfl ?_
  refine g_scr hX dL_law_121 rfl ?_
  refine g_iload_n hX dL_law_122 rfl ?_
  refine g_iconst hX dL_law_123 ?_
  refine g_iadd hX dL_law_124 ?_
  refine g_sld (i := i + 1) hX hs dL_law_125 (by omega) (by omega) ?_
  refine g_scr hX dL_law_126 rfl ?_
  refine g_iload_n hX dL_law_127 rfl ?_
  refine g_iconst hX dL_law_128 ?_
  refine g_iadd hX dL_law_129 ?_
  refine g_sld (i := i + 2) hX hs dL_law_130 (by omega) (by omega) ?_
  refine g_scr hX dL_law_131 rfl ?_
  refine g_iload_n hX dL_law_132 rfl ?_
  refine g_iconst hX dL_law_133 ?_
  refine g_iadd hX dL_law_134 ?_
  refine g_sld (i := i + 3) hX hs dL_law_135 (by omega) (by omega) ?_
  refine g_v3I hX lk_L_13 dL_law_136 (c0 := 6) ok63 ⟨_, rfl, rfl⟩ (x_part hI hR hM (iR _) (iR _) (iR _)) (by first | decide | omega) (by decide) rfl (Nat.le_of_ble_eq_true rfl) (fun z μ1 hp => ?_)
  obtain ⟨hz, hR1, hv1⟩ := hp
  have hM1 : IM j (vw μ1) := by rw [hv1]; exact hM
  refine g_aload_n hX dL_law_139 rfl ?_
  refine g_scr hX dL_law_140 rfl ?_
  refine g_iload_n hX dL_law_141 rfl ?_
  refine g_iconst hX dL_law_142 ?_
  refine g_iadd hX dL_law_143 ?_
  refine g_sld (i := i + 1) hX hs dL_law_144 (by omega) (by omega) ?_
  refine g_scr hX dL_law_145 rfl ?_
  refine g_iload_n hX dL_law_146 rfl ?_
  refine g_iconst hX dL_law_147 ?_
  refine g_iadd hX dL_law_148 ?_
  refine g_sld (i := i + 2) hX hs dL_law_149 (by omega) (by omega) ?_
  refine g_scr hX dL_law_150 rfl ?_
  refine g_iload_n hX dL_law_151 rfl ?_
  refine g_iconst hX dL_law_152 ?_
  refine g_iadd hX dL_law_153 ?_
  refine g_sld (i := i + 3) hX hs dL_law_154 (by omega) (by omega) ?_
  refine g_v3I hX lk_L_17 dL_law_155 (c0 := 7) ok76 ⟨_, rfl, rfl⟩ (m_part hI hM1 (iR _) (iR _) (iR _)) (by first | decide | omega) (by decide) rfl (Nat.le_of_ble_eq_true rfl) (fun z' μ2 hp => ?_)
  obtain ⟨hz2, hv2, hk2⟩ := hp
  rw [hv1] at hz2 hv2
  rw [hz, hz2]
  refine g_same (tgt := 714) hX dL_law_158 (by decide) (k μ2 ?_ ?_)
  · rw [hv2]; exact P_part hM
  · rw [hv2]; exact R_scr hR1 (fun q hq => hk2 q (by omega))
theorem law_need {V : VX} {E : EX} {n lvl Ls j i b : Nat} {xs : Nat → Int32} {μ : Mem} (hX : OkX V E RL cL_law 4 lvl) (hI : InjV V) (hlv : 51 < lvl) (hs : ScrX E b Ls xs) (hi : i + 4 < Ls) (hj : j ≤ 100000) (hM : IM j (vw μ)) (hR : RelXM μ (vw μ))
    (k : ∀ μ', IM (j + 1) (vw μ') → RelXM μ' (vw μ') → G V E μ' 714 [some (.ref b), some (vr V 63), some (vr V 76), some (vi (i : Int))] []) : G V E μ 163 [some (.ref b), some (vr V 63), some (vr V 76), some (vi (i : Int))] [] := by
  refine g_aload_n hX dL_law_163 rfl ?_
  refine g_scr hX dL_law_164 rfl ?_
  refine g_iload_n hX dL_law_165 rfl ?_
  refine g_iconst hX dL_law_166 ?_
  refine g_iadd hX dL_law_167 ?_
  refine g_sld (i := i + 1) hX hs dL_law_168 (by omega) (by omega) ?_
  refine g_scr hX dL_law_169 rfl ?_
  refine g_iload_n hX dL_law_170 rfl ?_
  refine g_iconst hX dL_law_171 ?_
  refine g_iadd hX dL_law_172 ?_
  refine g_sld (i := i + 2) hX hs dL_law_173 (by omega) (by omega) ?_
  refine g_v2I hX lk_L_18 dL_law_174 (c0 := 6) ok63 ⟨_, rfl, rfl⟩ (x_need hI hR hM (iR _) (iR _)) (by first | decide | omega) (by decide) rfl (Nat.le_of_ble_eq_true rfl) (fun z μ1 hp => ?_)
  obtain ⟨hz, hR1, hv1⟩ := hp
  have hM1 : IM j (vw μ1) := by rw [hv1]; exact hM
  refine g_aload_n hX dL_law_177 rfl ?_
  refine g_scr hX dL_law_178 rfl ?_
  refine g_iload_n hX dL_law_179 rfl ?_
  refine g_iconst hX dL_law_180 ?_
  refine g_iadd hX dL_law_181 ?_
  refine g_sld (i := i + 1) hX hs dL_law_182 (by omega) (by omega) ?_
  refine g_scr hX dL_law_183 rfl ?_
  refine g_iload_n hX dL_law_184 rfl ?_
  refine g_iconst hX dL_law_185 ?_
  refine g_iadd hX dL_law_186 ?_
  refine g_sld (i := i + 2) hX hs dL_law_187 (by omega) (by omega) ?_
  refine g_v2I hX lk_L_22 dL_law_188 (c0 := 7) ok76 ⟨_, rfl, rfl⟩ (m_need hI hM1 (iR _) (iR _)) (by first | decide | omega) (by decide) rfl (Nat.le_of_ble_eq_true rfl) (fun z' μ2 hp => ?_)
  obtain ⟨hz2, hv2, hk2⟩ := hp
  rw [hv1] at hz2 hv2
  rw [hz, hz2]
  refine g_same (tgt := 714) hX dL_law_191 (by decide) (k μ2 ?_ ?_)
  · rw [hv2]; exact P_need hM
  · rw [hv2]; exact R_scr hR1 (fun q hq => hk2 q (by omega))
theorem law_casts {V : VX} {E : EX} {n lvl Ls j i b : Nat} {xs : Nat → Int32} {μ : Mem} (hX : OkX V E RL cL_law 4 lvl) (hI : InjV V) (hlv : 51 < lvl) (hs : ScrX E b Ls xs) (hi : i + 4 < Ls) (hj : j ≤ 100000) (hM : IM j (vw μ)) (hR : RelXM μ (vw μ))
    (k : ∀ μ', IM (j + 1) (vw μ') → RelXM μ' (vw μ') → G V E μ' 714 [some (.ref b), some (vr V 63), some (vr V 76), some (vi (i : Int))] []) : G V E μ 196 [some (.ref b), some (vr V 63), some (vr V 76), some (vi (i : Int))] [] := by
  refine g_aload_n hX dL_law_196 rfl ?_
  refine g_scr hX dL_law_197 rfl ?_
  refine g_iload_n hX dL_law_198 rfl ?_
  refine g_iconst hX dL_law_199 ?_
  refine g_iadd hX dL_law_200 ?_
  refine g_sld (i := i + 1) hX hs dL_law_201 (by omega) (by omega) ?_
  refine g_scr hX dL_law_202 rfl ?_
  refine g_iload_n hX dL_law_203 rfl ?_
  refine g_iconst hX dL_law_204 ?_
  refine g_iadd hX dL_law_205 ?_
  refine g_sld (i := i + 2) hX hs dL_law_206 (by omega) (by omega) ?_
  refine g_scr hX dL_law_207 rfl ?_
  refine g_iload_n hX dL_law_208 rfl ?_
  refine g_iconst hX dL_law_209 ?_
  refine g_iadd hX dL_law_210 ?_
  refine g_sld (i := i + 3) hX hs dL_law_211 (by omega) (by omega) ?_
  refine g_v3I hX lk_L_23 dL_law_212 (c0 := 6) ok63 ⟨_, rfl, rfl⟩ (x_casts hI hR hM (iR _) (iR _) (iR _)) (by first | decide | omega) (by decide) rfl (Nat.le_of_ble_eq_true rfl) (fun z μ1 hp => ?_)
  obtain ⟨hz, hR1, hv1⟩ := hp
  have hM1 : IM j (vw μ1) := by rw [hv1]; exact hM
  refine g_aload_n hX dL_law_215 rfl ?_
  refine g_scr hX dL_law_216 rfl ?_
  refine g_iload_n hX dL_law_217 rfl ?_
  refine g_iconst hX dL_law_218 ?_
  refine g_iadd hX dL_law_219 ?_
  refine g_sld (i := i + 1) hX hs dL_law_220 (by omega) (by omega) ?_
  refine g_scr hX dL_law_221 rfl ?_
  refine g_iload_n hX dL_law_222 rfl ?_
  refine g_iconst hX dL_law_223 ?_
  refine g_iadd hX dL_law_224 ?_
  refine g_sld (i := i + 2) hX hs dL_law_225 (by omega) (by omega) ?_
  refine g_scr hX dL_law_226 rfl ?_
  refine g_iload_n hX dL_law_227 rfl ?_
  refine g_iconst hX dL_law_228 ?_
  refine g_iadd hX dL_law_229 ?_
  refine g_sld (i := i + 3) hX hs dL_law_230 (by omega) (by omega) ?_
  refine g_v3I hX lk_L_26 dL_law_231 (c0 := 7) ok76 ⟨_, rfl, rfl⟩ (m_casts hI hM1 (iR _) (iR _) (iR _)) (by first | decide | omega) (by decide) rfl (Nat.le_of_ble_eq_true rfl) (fun z' μ2 hp => ?_)
  obtain ⟨hz2, hk2, hsc⟩ := hp
  rw [hv1] at hz2
  rw [ansC_u hz2 hz]
  refine g_same (tgt := 714) hX dL_law_234 (by decide) (k μ2 ?_ ?_)
  · exact ScM_im hsc hM1
  · exact ScM_rel hsc hk2 (by rw [hv1]; exact hR1)
theorem law_cast {V : VX} {E : EX} {n lvl Ls j i b : Nat} {xs : Nat → Int32} {μ : Mem} (hX : OkX V E RL cL_law 4 lvl) (hI : InjV V) (hlv : 51 < lvl) (hs : ScrX E b Ls xs) (hi : i + 4 < Ls) (hj : j ≤ 100000) (hM : IM j (vw μ)) (hR : RelXM μ (vw μ))
    (k : ∀ μ', IM (j + 1) (vw μ') → RelXM μ' (vw μ') → G V E μ' 714 [some (.ref b), some (vr V 63), some (vr V 76), some (vi (i : Int))] []) : G V E μ 239 [some (.ref b), some (vr V 63), some (vr V 76), some (vi (i : Int))] [] := by
  refine g_aload_n hX dL_law_239 rfl ?_
  refine g_scr hX dL_law_240 rfl ?_
  refine g_iload_n hX dL_law_241 rfl ?_
  refine g_iconst hX dL_law_242 ?_
  refine g_iadd hX dL_law_243 ?_
  refine g_sld (i := i + 1) hX hs dL_law_244 (by omega) (by omega) ?_
  refine g_scr hX dL_law_245 rfl ?_
  refine g_iload_n hX dL_law_246 rfl ?_
  refine g_iconst hX dL_law_247 ?_
  refine g_iadd hX dL_law_248 ?_
  refine g_sld (i := i + 2) hX hs dL_law_249 (by omega) (by omega) ?_
  refine g_scr hX dL_law_250 rfl ?_
  refine g_iload_n hX dL_law_251 rfl ?_
  refine g_iconst hX dL_law_252 ?_
  refine g_iadd hX dL_law_253 ?_
  refine g_sld (i := i + 3) hX hs dL_law_254 (by omega) (by omega) ?_
  refine g_v3I hX lk_L_27 dL_law_255 (c0 := 6) ok63 ⟨_, rfl, rfl⟩ (x_cast hI hR hM (iR _) (iR _) (iR _) (by omega)) (by first | decide | omega) (by decide) rfl (Nat.le_of_ble_eq_true rfl) (fun z μ1 hp => ?_)
  obtain ⟨hz, hR1, hv1⟩ := hp
  have hM1 : IM j (vw μ1) := by rw [hv1]; exact hM
  refine g_aload_n hX dL_law_258 rfl ?_
  refine g_scr hX dL_law_259 rfl ?_
  refine g_iload_n hX dL_law_260 rfl ?_
  refine g_iconst hX dL_law_261 ?_
  refine g_iadd hX dL_law_262 ?_
  refine g_sld (i := i + 1) hX hs dL_law_263 (by omega) (by omega) ?_
  refine g_scr hX dL_law_264 rfl ?_
  refine g_iload_n hX dL_law_265 rfl ?_
  refine g_iconst hX dL_law_266 ?_
  refine g_iadd hX dL_law_267 ?_
  refine g_sld (i := i + 2) hX hs dL_law_268 (by omega) (by omega) ?_
  refine g_scr hX dL_law_269 rfl ?_
  refine g_iload_n hX dL_law_270 rfl ?_
  refine g_iconst hX dL_law_271 ?_
  refine g_iadd hX dL_law_272 ?_
  refine g_sld (i := i + 3) hX hs dL_law_273 (by omega) (by omega) ?_
  refine g_v3I hX lk_L_30 dL_law_274 (c0 := 7) ok76 ⟨_, rfl, rfl⟩ (m_cast hI hM1 (iR _) (iR _) (iR _)) (by first | decide | omega) (by decide) rfl (Nat.le_of_ble_eq_true rfl) (fun z' μ2 hp => ?_)
  obtain ⟨hz2, hv2, hk2⟩ := hp
  rw [hv1] at hz2 hv2
  rw [hz, hz2]
  refine g_same (tgt := 714) hX dL_law_277 (by decide) (k μ2 ?_ ?_)
  · rw [hv2]; exact P_cast hM
  · rw [hv2]; exact R_scr hR1 (fun q hq => hk2 q (by omega))
theorem law_warmth {V : VX} {E : EX} {n lvl Ls j i b : Nat} {xs : Nat → Int32} {μ : Mem} (hX : OkX V E RL cL_law 4 lvl) (hI : InjV V) (hlv : 51 < lvl) (hs : ScrX E b Ls xs) (hi : i + 4 < Ls) (hj : j ≤ 100000) (hM : IM j (vw μ)) (hR : RelXM μ (vw μ))
    (k : ∀ μ', IM (j + 1) (vw μ') → RelXM μ' (vw μ') → G V E μ' 714 [some (.ref b), some (vr V 63), some (vr V 76), some (vi (i : Int))] []) : G V E μ 282 [some (.ref b), some (vr V 63), some (vr V 76), some (vi (i : Int))] [] := by
  refine g_aload_n hX dL_law_282 rfl ?_
  refine g_scr hX dL_law_283 rfl ?_
  refine g_iload_n hX dL_law_284 rfl ?_
  refine g_iconst hX dL_law_285 ?_
  refine g_iadd hX dL_law_286 ?_
  refine g_sld (i := i + 1) hX hs dL_law_287 (by omega) (by omega) ?_
  refine g_v1I hX lk_L_31 dL_law_288 (c0 := 6) ok63 ⟨_, rfl, rfl⟩ (x_warmth hI hR (iR _)) (by first | decide | omega) (by decide) rfl (Nat.le_of_ble_eq_true rfl) (fun z μ1 hp => ?_)
  obtain ⟨hz, hR1, hv1⟩ := hp
  have hM1 : IM j (vw μ1) := by rw [hv1]; exact hM
  refine g_aload_n hX dL_law_291 rfl ?_
  refine g_scr hX dL_law_292 rfl ?_
  refine g_iload_n hX dL_law_293 rfl ?_
  refine g_iconst hX dL_law_294 ?_
  refine g_iadd hX dL_law_295 ?_
  refine g_sld (i := i + 1) hX hs dL_law_296 (by omega) (by omega) ?_
  refine g_v1I hX lk_L_35 dL_law_297 (c0 := 7) ok76 ⟨_, rfl, rfl⟩ (m_warmth hI (iR _)) (by first | decide | omega) (by decide) rfl (Nat.le_of_ble_eq_true rfl) (fun z' μ2 hp => ?_)
  obtain ⟨hz2, hv2, hk2⟩ := hp
  rw [hv1] at hz2 hv2
  rw [hz, hz2]
  refine g_same (tgt := 714) hX dL_law_300 (by decide) (k μ2 ?_ ?_)
  · rw [hv2]; exact P_warm hM
  · rw [hv2]; exact R_scr hR1 (fun q hq => hk2 q (by omega))
theorem law_hours {V : VX} {E : EX} {n lvl Ls j i b : Nat} {xs : Nat → Int32} {μ : Mem} (hX : OkX V E RL cL_law 4 lvl) (hI : InjV V) (hlv : 51 < lvl) (hs : ScrX E b Ls xs) (hi : i + 4 < Ls) (hj : j ≤ 100000) (hM : IM j (vw μ)) (hR : RelXM μ (vw μ))
    (k : ∀ μ', IM (j + 1) (vw μ') → RelXM μ' (vw μ') → G V E μ' 714 [some (.ref b), some (vr V 63), some (vr V 76), some (vi (i : Int))] []) : G V E μ 305 [some (.ref b), some (vr V 63), some (vr V 76), some (vi (i : Int))] [] := by
  refine g_aload_n hX dL_law_305 rfl ?_
  refine g_scr hX dL_law_306 rfl ?_
  refine g_iload_n hX dL_law_307 rfl ?_
  refine g_iconst hX dL_law_308 ?_
  refine g_iadd hX dL_law_309 ?_
  refine g_sld (i := i + 1) hX hs dL_law_310 (by omega) (by omega) ?_
  refine g_v1I hX lk_L_36 dL_law_311 (c0 := 6) ok63 ⟨_, rfl, rfl⟩ (x_hours hI hR hM (iR _)) (by first | decide | omega) (by decide) rfl (Nat.le_of_ble_eq_true rfl) (fun z μ1 hp => ?_)
  obtain ⟨hz, hR1, hv1⟩ := hp
  have hM1 : IM j (vw μ1) := by rw [hv1]; exact hM
  refine g_aload_n hX dL_law_314 rfl ?_
  refine g_scr hX dL_law_315 rfl ?_
  refine g_iload_n hX dL_law_316 rfl ?_
  refine g_iconst hX dL_law_317 ?_
  refine g_iadd hX dL_law_318 ?_
  refine g_sld (i := i + 1) hX hs dL_law_319 (by omega) (by omega) ?_
  refine g_v1I hX lk_L_39 dL_law_320 (c0 := 7) ok76 ⟨_, rfl, rfl⟩ (m_hours hI hM1 (iR _)) (by first | decide | omega) (by decide) rfl (Nat.le_of_ble_eq_true rfl) (fun z' μ2 hp => ?_)
  obtain ⟨hz2, hv2, hk2⟩ := hp
  rw [hv1] at hz2 hv2
  rw [hz, hz2]
  refine g_same (tgt := 714) hX dL_law_323 (by decide) (k μ2 ?_ ?_)
  · rw [hv2]; exact P_hours hM
  · rw [hv2]; exact R_scr hR1 (fun q hq => hk2 q (by omega))
theorem law_letGo {V : VX} {E : EX} {n lvl Ls j i b : Nat} {xs : Nat → Int32} {μ : Mem} (hX : OkX V E RL cL_law 4 lvl) (hI : InjV V) (hlv : 51 < lvl) (hs : ScrX E b Ls xs) (hi : i + 4 < Ls) (hj : j ≤ 100000) (hM : IM j (vw μ)) (hR : RelXM μ (vw μ))
    (k : ∀ μ', IM (j + 1) (vw μ') → RelXM μ' (vw μ') → G V E μ' 714 [some (.ref b), some (vr V 63), some (vr V 76), some (vi (i : Int))] []) : G V E μ 328 [some (.ref b), some (vr V 63), some (vr V 76), some (vi (i : Int))] [] := by
  refine g_aload_n hX dL_law_328 rfl ?_
  refine g_scr hX dL_law_329 rfl ?_
  refine g_iload_n hX dL_law_330 rfl ?_
  refine g_iconst hX dL_law_331 ?_
  refine g_iadd hX dL_law_332 ?_
  refine g_sld (i := i + 1) hX hs dL_law_333 (by omega) (by omega) ?_
  refine g_v1I hX lk_L_40 dL_law_334 (c0 := 6) ok63 ⟨_, rfl, rfl⟩ (x_letGo hI hR hM (iR _) (by omega)) (by first | decide | omega) (by decide) rfl (Nat.le_of_ble_eq_true rfl) (fun z μ1 hp => ?_)
  obtain ⟨hz, hR1, hv1⟩ := hp
  have hM1 : IM j (vw μ1) := by rw [hv1]; exact hM
  refine g_aload_n hX dL_law_337 rfl ?_
  refine g_scr hX dL_law_338 rfl ?_
  refine g_iload_n hX dL_law_339 rfl ?_
  refine g_iconst hX dL_law_340 ?_
  refine g_iadd hX dL_law_341 ?_
  refine g_sld (i := i + 1) hX hs dL_law_342 (by omega) (by omega) ?_
  refine g_v1I hX lk_L_43 dL_law_343 (c0 := 7) ok76 ⟨_, rfl, rfl⟩ (m_letGo hI hM1 (iR _)) (by first | decide | omega) (by decide) rfl (Nat.le_of_ble_eq_true rfl) (fun z' μ2 hp => ?_)
  obtain ⟨hz2, hv2, hk2⟩ := hp
  rw [hv1] at hz2 hv2
  rw [hz, hz2]
  refine g_same (tgt := 714) hX dL_law_346 (by decide) (k μ2 ?_ ?_)
  · rw [hv2]; exact P_letGo hM
  · rw [hv2]; exact R_scr hR1 (fun q hq => hk2 q (by omega))
theorem law_stack {V : VX} {E : EX} {n lvl Ls j i b : Nat} {xs : Nat → Int32} {μ : Mem} (hX : OkX V E RL cL_law 4 lvl) (hI : InjV V) (hlv : 51 < lvl) (hs : ScrX E b Ls xs) (hi : i + 4 < Ls) (hj : j ≤ 100000) (hM : IM j (vw μ)) (hR : RelXM μ (vw μ))
    (k : ∀ μ', IM (j + 1) (vw μ') → RelXM μ' (vw μ') → G V E μ' 714 [some (.ref b), some (vr V 63), some (vr V 76), some (vi (i : Int))] []) : G V E μ 351 [some (.ref b), some (vr V 63), some (vr V 76), some (vi (i : Int))] [] := by
  refine g_aload_n hX dL_law_351 rfl ?_
  refine g_scr hX dL_law_352 rfl ?_
  refine g_iload_n hX dL_law_353 rfl ?_
  refine g_iconst hX dL_law_354 ?_
  refine g_iadd hX dL_law_355 ?_
  refine g_sld (i := i + 1) hX hs dL_law_356 (by omega) (by omega) ?_
  refine g_scr hX dL_law_357 rfl ?_
  refine g_iload_n hX dL_law_358 rfl ?_
  refine g_iconst hX dL_law_359 ?_
  refine g_iadd hX dL_law_360 ?_
  refine g_sld (i := i + 2) hX hs dL_law_361 (by omega) (by omega) ?_
  refine g_v2I hX lk_L_44 dL_law_362 (c0 := 6) ok63 ⟨_, rfl, rfl⟩ (x_stack hI hR hM (iR _) (iR _)) (by first | decide | omega) (by decide) rfl (Nat.le_of_ble_eq_true rfl) (fun z μ1 hp => ?_)
  obtain ⟨hz, hR1, hv1⟩ := hp
  have hM1 : IM j (vw μ1) := by rw [hv1]; exact hM
  refine g_aload_n hX dL_law_365 rfl ?_
  refine g_scr hX dL_law_366 rfl ?_
  refine g_iload_n hX dL_law_367 rfl ?_
  refine g_iconst hX dL_law_368 ?_
  refine g_iadd hX dL_law_369 ?_
  refine g_sld (i := i + 1) hX hs dL_law_370 (by omega) (by omega) ?_
  refine g_scr hX dL_law_371 rfl ?_
  refine g_iload_n hX dL_law_372 rfl ?_
  refine g_iconst hX dL_law_373 ?_
  refine g_iadd hX dL_law_374 ?_
  refine g_sld (i := i + 2) hX hs dL_law_375 (by omega) (by omega) ?_
  refine g_v2I hX lk_L_47 dL_law_376 (c0 := 7) ok76 ⟨_, rfl, rfl⟩ (m_stack hI hM1 (iR _) (iR _)) (by first | decide | omega) (by decide) rfl (Nat.le_of_ble_eq_true rfl) (fun z' μ2 hp => ?_)
  obtain ⟨hz2, hv2, hk2⟩ := hp
  rw [hv1] at hz2 hv2
  rw [hz, hz2]
  refine g_same (tgt := 714) hX dL_law_379 (by decide) (k μ2 ?_ ?_)
  · rw [hv2]; exact P_stack hM
  · rw [hv2]; exact R_scr hR1 (fun q hq => hk2 q (by omega))
theorem law_move {V : VX} {E : EX} {n lvl Ls j i b : Nat} {xs : Nat → Int32} {μ : Mem} (hX : OkX V E RL cL_law 4 lvl) (hI : InjV V) (hlv : 51 < lvl) (hs : ScrX E b Ls xs) (hi : i + 4 < Ls) (hj : j ≤ 100000) (hM : IM j (vw μ)) (hR : RelXM μ (vw μ))
    (k : ∀ μ', IM (j + 1) (vw μ') → RelXM μ' (vw μ') → G V E μ' 714 [some (.ref b), some (vr V 63), some (vr V 76), some (vi (i : Int))] []) : G V E μ 384 [some (.ref b), some (vr V 63), some (vr V 76), some (vi (i : Int))] [] := by
  refine g_aload_n hX dL_law_384 rfl ?_
  refine g_scr hX dL_law_385 rfl ?_
  refine g_iload_n hX dL_law_386 rfl ?_
  refine g_iconst hX dL_law_387 ?_
  refine g_iadd hX dL_law_388 ?_
  refine g_sld (i := i + 1) hX hs dL_law_389 (by omega) (by omega) ?_
  refine g_scr hX dL_law_390 rfl ?_
  refine g_iload_n hX dL_law_391 rfl ?_
  refine g_iconst hX dL_law_392 ?_
  refine g_iadd hX dL_law_393 ?_
  refine g_sld (i := i + 2) hX hs dL_law_394 (by omega) (by omega) ?_
  refine g_v2I hX lk_L_48 dL_law_395 (c0 := 6) ok63 ⟨_, rfl, rfl⟩ (x_move hI hR hM (iR _) (iR _)) (by first | decide | omega) (by decide) rfl (Nat.le_of_ble_eq_true rfl) (fun z μ1 hp => ?_)
  obtain ⟨hz, hR1, hv1⟩ := hp
  have hM1 : IM j (vw μ1) := by rw [hv1]; exact hM
  refine g_aload_n hX dL_law_398 rfl ?_
  refine g_scr hX dL_law_399 rfl ?_
  refine g_iload_n hX dL_law_400 rfl ?_
  refine g_iconst hX dL_law_401 ?_
  refine g_iadd hX dL_law_402 ?_
  refine g_sld (i := i + 1) hX hs dL_law_403 (by omega) (by omega) ?_
  refine g_scr hX dL_law_404 rfl ?_
  refine g_iload_n hX dL_law_405 rfl ?_
  refine g_iconst hX dL_law_406 ?_
  refine g_iadd hX dL_law_407 ?_
  refine g_sld (i := i + 2) hX hs dL_law_408 (by omega) (by omega) ?_
  refine g_v2I hX lk_L_51 dL_law_409 (c0 := 7) ok76 ⟨_, rfl, rfl⟩ (m_move hI hM1 (iR _) (iR _)) (by first | decide | omega) (by decide) rfl (Nat.le_of_ble_eq_true rfl) (fun z' μ2 hp => ?_)
  obtain ⟨hz2, hv2, hk2⟩ := hp
  rw [hv1] at hz2 hv2
  rw [hz, hz2]
  refine g_same (tgt := 714) hX dL_law_412 (by decide) (k μ2 ?_ ?_)
  · rw [hv2]; exact P_move hM
  · rw [hv2]; exact R_scr hR1 (fun q hq => hk2 q (by omega))
theorem law_diggings {V : VX} {E : EX} {n lvl Ls j i b : Nat} {xs : Nat → Int32} {μ : Mem} (hX : OkX V E RL cL_law 4 lvl) (hI : InjV V) (hlv : 51 < lvl) (hs : ScrX E b Ls xs) (hi : i + 4 < Ls) (hj : j ≤ 100000) (hM : IM j (vw μ)) (hR : RelXM μ (vw μ))
    (k : ∀ μ', IM (j + 1) (vw μ') → RelXM μ' (vw μ') → G V E μ' 714 [some (.ref b), some (vr V 63), some (vr V 76), some (vi (i : Int))] []) : G V E μ 417 [some (.ref b), some (vr V 63), some (vr V 76), some (vi (i : Int))] [] := by
  refine g_aload_n hX dL_law_417 rfl ?_
  refine g_scr hX dL_law_418 rfl ?_
  refine g_iload_n hX dL_law_419 rfl ?_
  refine g_iconst hX dL_law_420 ?_
  refine g_iadd hX dL_law_421 ?_
  refine g_sld (i := i + 1) hX hs dL_law_422 (by omega) (by omega) ?_
  refine g_scr hX dL_law_423 rfl ?_
  refine g_iload_n hX dL_law_424 rfl ?_
  refine g_iconst hX dL_law_425 ?_
  refine g_iadd hX dL_law_426 ?_
  refine g_sld (i := i + 2) hX hs dL_law_427 (by omega) (by omega) ?_
  refine g_i2l hX dL_law_428 (iR _) ?_
  refine g_bipush hX dL_law_429 rfl ?_
  refine g_lshl hX dL_law_431 (l64 _) ?_
  refine g_scr hX dL_law_432 rfl ?_
  refine g_iload_n hX dL_law_433 rfl ?_
  refine g_iconst hX dL_law_434 ?_
  refine g_iadd hX dL_law_435 ?_
  refine g_sld (i := i + 3) hX hs dL_law_436 (by omega) (by omega) ?_
  refine g_i2l hX dL_law_437 (iR _) ?_
  refine g_ldc2 (z := 4294967295) hX dL_law_438 tw_780 ?_
  refine g_land hX dL_law_441 (l64 _) ?_
  refine g_lor hX dL_law_442 (l64 _) ?_
  refine g_v2I hX lk_L_54 dL_law_443 (c0 := 6) ok63 ⟨_, rfl, rfl⟩ (x_diggings hI hR hM (iR _) (l64r _)) (by first | decide | omega) (by decide) rfl (Nat.le_of_ble_eq_true rfl) (fun z μ1 hp => ?_)
  obtain ⟨hz, hR1, hv1⟩ := hp
  have hM1 : IM j (vw μ1) := by rw [hv1]; exact hM
  refine g_aload_n hX dL_law_446 rfl ?_
  refine g_scr hX dL_law_447 rfl ?_
  refine g_iload_n hX dL_law_448 rfl ?_
  refine g_iconst hX dL_law_449 ?_
  refine g_iadd hX dL_law_450 ?_
  refine g_sld (i := i + 1) hX hs dL_law_451 (by omega) (by omega) ?_
  refine g_scr hX dL_law_452 rfl ?_
  refine g_iload_n hX dL_law_453 rfl ?_
  refine g_iconst hX dL_law_454 ?_
  refine g_iadd hX dL_law_455 ?_
  refine g_sld (i := i + 2) hX hs dL_law_456 (by omega) (by omega) ?_
  refine g_i2l hX dL_law_457 (iR _) ?_
  refine g_bipush hX dL_law_458 rfl ?_
  refine g_lshl hX dL_law_460 (l64 _) ?_
  refine g_scr hX dL_law_461 rfl ?_
  refine g_iload_n hX dL_law_462 rfl ?_
  refine g_iconst hX dL_law_463 ?_
  refine g_iadd hX dL_law_464 ?_
  refine g_sld (i := i + 3) hX hs dL_law_465 (by omega) (by omega) ?_
  refine g_i2l hX dL_law_466 (iR _) ?_
  refine g_ldc2 (z := 4294967295) hX dL_law_467 tw_780 ?_
  refine g_land hX dL_law_470 (l64 _) ?_
  refine g_lor hX dL_law_471 (l64 _) ?_
  refine g_v2I hX lk_L_58 dL_law_472 (c0 := 7) ok76 ⟨_, rfl, rfl⟩ (m_diggings hI hM1 (iR _) (l64r _)) (by first | decide | omega) (by decide) rfl (Nat.le_of_ble_eq_true rfl) (fun z' μ2 hp => ?_)
  obtain ⟨hz2, hk2, hsc⟩ := hp
  rw [hv1] at hz2
  rw [ansD_u hz2 hz]
  refine g_same (tgt := 714) hX dL_law_475 (by decide) (k μ2 ?_ ?_)
  · exact ScM_im hsc hM1
  · exact ScM_rel hsc hk2 (by rw [hv1]; exact hR1)
theorem law_load {V : VX} {E : EX} {n lvl Ls j i b : Nat} {xs : Nat → Int32} {μ : Mem} (hX : OkX V E RL cL_law 4 lvl) (hI : InjV V) (hlv : 51 < lvl) (hs : ScrX E b Ls xs) (hi : i + 4 < Ls) (hj : j ≤ 100000) (hM : IM j (vw μ)) (hR : RelXM μ (vw μ))
    (k : ∀ μ', IM (j + 1) (vw μ') → RelXM μ' (vw μ') → G V E μ' 714 [some (.ref b), some (vr V 63), some (vr V 76), some (vi (i : Int))] []) : G V E μ 480 [some (.ref b), some (vr V 63), some (vr V 76), some (vi (i : Int))] [] := by
  refine g_aload_n hX dL_law_480 rfl ?_
  refine g_scr hX dL_law_481 rfl ?_
  refine g_iload_n hX dL_law_482 rfl ?_
  refine g_iconst hX dL_law_483 ?_
  refine g_iadd hX dL_law_484 ?_
  refine g_sld (i := i + 1) hX hs dL_law_485 (by omega) (by omega) ?_
  refine g_v1I hX lk_L_59 dL_law_486 (c0 := 6) ok63 ⟨_, rfl, rfl⟩ (x_load hI hR hM (iR _)) (by first | decide | omega) (by decide) rfl (Nat.le_of_ble_eq_true rfl) (fun z μ1 hp => ?_)
  obtain ⟨hz, hR1, hv1⟩ := hp
  have hM1 : IM j (vw μ1) := by rw [hv1]; exact hM
  refine g_aload_n hX dL_law_489 rfl ?_
  refine g_scr hX dL_law_490 rfl ?_
  refine g_iload_n hX dL_law_491 rfl ?_
  refine g_iconst hX dL_law_492 ?_
  refine g_iadd hX dL_law_493 ?_
  refine g_sld (i := i + 1) hX hs dL_law_494 (by omega) (by omega) ?_
  refine g_v1I hX lk_L_62 dL_law_495 (c0 := 7) ok76 ⟨_, rfl, rfl⟩ (m_load hI hM1 (iR _)) (by first | decide | omega) (by decide) rfl (Nat.le_of_ble_eq_true rfl) (fun z' μ2 hp => ?_)
  obtain ⟨hz2, hv2, hk2⟩ := hp
  rw [hv1] at hz2 hv2
  rw [hz, hz2]
  refine g_same (tgt := 714) hX dL_law_498 (by decide) (k μ2 ?_ ?_)
  · rw [hv2]; exact P_load hM
  · rw [hv2]; exact R_scr hR1 (fun q hq => hk2 q (by omega))
theorem law_go {V : VX} {E : EX} {n lvl Ls j i b : Nat} {xs : Nat → Int32} {μ : Mem} (hX : OkX V E RL cL_law 4 lvl) (hI : InjV V) (hlv : 51 < lvl) (hs : ScrX E b Ls xs) (hi : i + 4 < Ls) (hj : j ≤ 100000) (hM : IM j (vw μ)) (hR : RelXM μ (vw μ))
    (k : ∀ μ', IM (j + 1) (vw μ') → RelXM μ' (vw μ') → G V E μ' 714 [some (.ref b), some (vr V 63), some (vr V 76), some (vi (i : Int))] []) : G V E μ 503 [some (.ref b), some (vr V 63), some (vr V 76), some (vi (i : Int))] [] := by
  refine g_aload_n hX dL_law_503 rfl ?_
  refine g_v0I hX lk_L_63 dL_law_504 (c0 := 6) ok63 ⟨_, rfl, rfl⟩ (x_go hI hR hM ) (by first | decide | omega) (by decide) rfl (Nat.le_of_ble_eq_true rfl) (fun z μ1 hp => ?_)
  obtain ⟨hz, hR1, hv1⟩ := hp
  have hM1 : IM j (vw μ1) := by rw [hv1]; exact hM
  refine g_aload_n hX dL_law_507 rfl ?_
  refine g_v0I hX lk_L_67 dL_law_508 (c0 := 7) ok76 ⟨_, rfl, rfl⟩ (m_go hI hM1 ) (by first | decide | omega) (by decide) rfl (Nat.le_of_ble_eq_true rfl) (fun z' μ2 hp => ?_)
  obtain ⟨hz2, hv2, hk2⟩ := hp
  rw [hv1] at hz2 hv2
  rw [hz, hz2]
  refine g_same (tgt := 714) hX dL_law_511 (by decide) (k μ2 ?_ ?_)
  · rw [hv2]; exact P_go hM
  · rw [hv2]; exact R_scr hR1 (fun q hq => hk2 q (by omega))
theorem law_lorry {V : VX} {E : EX} {n lvl Ls j i b : Nat} {xs : Nat → Int32} {μ : Mem} (hX : OkX V E RL cL_law 4 lvl) (hI : InjV V) (hlv : 51 < lvl) (hs : ScrX E b Ls xs) (hi : i + 4 < Ls) (hj : j ≤ 100000) (hM : IM j (vw μ)) (hR : RelXM μ (vw μ))
    (k : ∀ μ', IM (j + 1) (vw μ') → RelXM μ' (vw μ') → G V E μ' 714 [some (.ref b), some (vr V 63), some (vr V 76), some (vi (i : Int))] []) : G V E μ 516 [some (.ref b), some (vr V 63), some (vr V 76), some (vi (i : Int))] [] := by
  refine g_aload_n hX dL_law_516 rfl ?_
  refine g_scr hX dL_law_517 rfl ?_
  refine g_iload_n hX dL_law_518 rfl ?_
  refine g_iconst hX dL_law_519 ?_
  refine g_iadd hX dL_law_520 ?_
  refine g_sld (i := i + 1) hX hs dL_law_521 (by omega) (by omega) ?_
  refine g_v1I hX lk_L_68 dL_law_522 (c0 := 6) ok63 ⟨_, rfl, rfl⟩ (x_lorry hI hR hM (iR _)) (by first | decide | omega) (by decide) rfl (Nat.le_of_ble_eq_true rfl) (fun z μ1 hp => ?_)
  obtain ⟨hz, hR1, hv1⟩ := hp
  have hM1 : IM j (vw μ1) := by rw [hv1]; exact hM
  refine g_aload_n hX dL_law_525 rfl ?_
  refine g_scr hX dL_law_526 rfl ?_
  refine g_iload_n hX dL_law_527 rfl ?_
  refine g_iconst hX dL_law_528 ?_
  refine g_iadd hX dL_law_529 ?_
  refine g_sld (i := i + 1) hX hs dL_law_530 (by omega) (by omega) ?_
  refine g_v1I hX lk_L_71 dL_law_531 (c0 := 7) ok76 ⟨_, rfl, rfl⟩ (m_lorry hI hM1 (iR _)) (by first | decide | omega) (by decide) rfl (Nat.le_of_ble_eq_true rfl) (fun z' μ2 hp => ?_)
  obtain ⟨hz2, hv2, hk2⟩ := hp
  rw [hv1] at hz2 hv2
  rw [hz, hz2]
  refine g_same (tgt := 714) hX dL_law_534 (by decide) (k μ2 ?_ ?_)
  · rw [hv2]; exact IM_up (sp_id_lorry hM)
  · rw [hv2]; exact R_scr hR1 (fun q hq => hk2 q (by omega))
theorem law_change {V : VX} {E : EX} {n lvl Ls j i b : Nat} {xs : Nat → Int32} {μ : Mem} (hX : OkX V E RL cL_law 4 lvl) (hI : InjV V) (hlv : 51 < lvl) (hs : ScrX E b Ls xs) (hi : i + 4 < Ls) (hj : j ≤ 100000) (hM : IM j (vw μ)) (hR : RelXM μ (vw μ))
    (k : ∀ μ', IM (j + 1) (vw μ') → RelXM μ' (vw μ') → G V E μ' 714 [some (.ref b), some (vr V 63), some (vr V 76), some (vi (i : Int))] []) : G V E μ 539 [some (.ref b), some (vr V 63), some (vr V 76), some (vi (i : Int))] [] := by
  refine g_aload_n hX dL_law_539 rfl ?_
  refine g_scr hX dL_law_540 rfl ?_
  refine g_iload_n hX dL_law_541 rfl ?_
  refine g_iconst hX dL_law_542 ?_
  refine g_iadd hX dL_law_543 ?_
  refine g_sld (i := i + 1) hX hs dL_law_544 (by omega) (by omega) ?_
  refine g_scr hX dL_law_545 rfl ?_
  refine g_iload_n hX dL_law_546 rfl ?_
  refine g_iconst hX dL_law_547 ?_
  refine g_iadd hX dL_law_548 ?_
  refine g_sld (i := i + 2) hX hs dL_law_549 (by omega) (by omega) ?_
  refine g_scr hX dL_law_550 rfl ?_
  refine g_iload_n hX dL_law_551 rfl ?_
  refine g_iconst hX dL_law_552 ?_
  refine g_iadd hX dL_law_553 ?_
  refine g_sld (i := i + 3) hX hs dL_law_554 (by omega) (by omega) ?_
  refine g_scr hX dL_law_555 rfl ?_
  refine g_iload_n hX dL_law_556 rfl ?_
  refine g_iconst hX dL_law_557 ?_
  refine g_iadd hX dL_law_558 ?_
  refine g_sld (i := i + 4) hX hs dL_law_559 (by omega) (by omega) ?_
  refine g_v4I hX lk_L_72 dL_law_560 (c0 := 6) ok63 ⟨_, rfl, rfl⟩ (x_change hI hR hM (iR _) (iR _) (iR _) (iR _)) (by first | decide | omega) (by decide) rfl (Nat.le_of_ble_eq_true rfl) (fun z μ1 hp => ?_)
  obtain ⟨hz, hR1, hv1⟩ := hp
  have hM1 : IM j (vw μ1) := by rw [hv1]; exact hM
  refine g_aload_n hX dL_law_563 rfl ?_
  refine g_scr hX dL_law_564 rfl ?_
  refine g_iload_n hX dL_law_565 rfl ?_
  refine g_iconst hX dL_law_566 ?_
  refine g_iadd hX dL_law_567 ?_
  refine g_sld (i := i + 1) hX hs dL_law_568 (by omega) (by omega) ?_
  refine g_scr hX dL_law_569 rfl ?_
  refine g_iload_n hX dL_law_570 rfl ?_
  refine g_iconst hX dL_law_571 ?_
  refine g_iadd hX dL_law_572 ?_
  refine g_sld (i := i + 2) hX hs dL_law_573 (by omega) (by omega) ?_
  refine g_scr hX dL_law_574 rfl ?_
  refine g_iload_n hX dL_law_575 rfl ?_
  refine g_iconst hX dL_law_576 ?_
  refine g_iadd hX dL_law_577 ?_
  refine g_sld (i := i + 3) hX hs dL_law_578 (by omega) (by omega) ?_
  refine g_scr hX dL_law_579 rfl ?_
  refine g_iload_n hX dL_law_580 rfl ?_
  refine g_iconst hX dL_law_581 ?_
  refine g_iadd hX dL_law_582 ?_
  refine g_sld (i := i + 4) hX hs dL_law_583 (by omega) (by omega) ?_
  refine g_v4I hX lk_L_76 dL_law_584 (c0 := 7) ok76 ⟨_, rfl, rfl⟩ (m_change hI hM1 (iR _) (iR _) (iR _) (iR _)) (by first | decide | omega) (by decide) rfl (Nat.le_of_ble_eq_true rfl) (fun z' μ2 hp => ?_)
  obtain ⟨hz2, hv2, hk2⟩ := hp
  rw [hv1] at hz2 hv2
  rw [hz, hz2]
  refine g_same (tgt := 714) hX dL_law_587 (by decide) (k μ2 ?_ ?_)
  · rw [hv2]; exact P_change hM
  · rw [hv2]; exact R_scr hR1 (fun q hq => hk2 q (by omega))
theorem law_told {V : VX} {E : EX} {n lvl Ls j i b : Nat} {xs : Nat → Int32} {μ : Mem} (hX : OkX V E RL cL_law 4 lvl) (hI : InjV V) (hlv : 51 < lvl) (hs : ScrX E b Ls xs) (hi : i + 4 < Ls) (hj : j ≤ 100000) (hM : IM j (vw μ)) (hR : RelXM μ (vw μ))
    (k : ∀ μ', IM (j + 1) (vw μ') → RelXM μ' (vw μ') → G V E μ' 714 [some (.ref b), some (vr V 63), some (vr V 76), some (vi (i : Int))] []) : G V E μ 592 [some (.ref b), some (vr V 63), some (vr V 76), some (vi (i : Int))] [] := by
  refine g_aload_n hX dL_law_592 rfl ?_
  refine g_scr hX dL_law_593 rfl ?_
  refine g_iload_n hX dL_law_594 rfl ?_
  refine g_iconst hX dL_law_595 ?_
  refine g_iadd hX dL_law_596 ?_
  refine g_sld (i := i + 1) hX hs dL_law_597 (by omega) (by omega) ?_
  refine g_scr hX dL_law_598 rfl ?_
  refine g_iload_n hX dL_law_599 rfl ?_
  refine g_iconst hX dL_law_600 ?_
  refine g_iadd hX dL_law_601 ?_
  refine g_sld (i := i + 2) hX hs dL_law_602 (by omega) (by omega) ?_
  refine g_v2I hX lk_L_77 dL_law_603 (c0 := 6) ok63 ⟨_, rfl, rfl⟩ (x_told hI hR hM (iR _) (iR _)) (by first | decide | omega) (by decide) rfl (Nat.le_of_ble_eq_true rfl) (fun z μ1 hp => ?_)
  obtain ⟨hz, hR1, hv1⟩ := hp
  have hM1 : IM j (vw μ1) := by rw [hv1]; exact hM
  refine g_aload_n hX dL_law_606 rfl ?_
  refine g_scr hX dL_law_607 rfl ?_
  refine g_iload_n hX dL_law_608 rfl ?_
  refine g_iconst hX dL_law_609 ?_
  refine g_iadd hX dL_law_610 ?_
  refine g_sld (i := i + 1) hX hs dL_law_611 (by omega) (by omega) ?_
  refine g_scr hX dL_law_612 rfl ?_
  refine g_iload_n hX dL_law_613 rfl ?_
  refine g_iconst hX dL_law_614 ?_
  refine g_iadd hX dL_law_615 ?_
  refine g_sld (i := i + 2) hX hs dL_law_616 (by omega) (by omega) ?_
  refine g_v2I hX lk_L_80 dL_law_617 (c0 := 7) ok76 ⟨_, rfl, rfl⟩ (m_told hI hM1 (iR _) (iR _)) (by first | decide | omega) (by decide) rfl (Nat.le_of_ble_eq_true rfl) (fun z' μ2 hp => ?_)
  obtain ⟨hz2, hv2, hk2⟩ := hp
  rw [hv1] at hz2 hv2
  rw [hz, hz2]
  refine g_same (tgt := 714) hX dL_law_620 (by decide) (k μ2 ?_ ?_)
  · rw [hv2]; exact IM_up (sp_id_told hM)
  · rw [hv2]; exact R_scr hR1 (fun q hq => hk2 q (by omega))
theorem law_at {V : VX} {E : EX} {n lvl Ls j i b : Nat} {xs : Nat → Int32} {μ : Mem} (hX : OkX V E RL cL_law 4 lvl) (hI : InjV V) (hlv : 51 < lvl) (hs : ScrX E b Ls xs) (hi : i + 4 < Ls) (hj : j ≤ 100000) (hM : IM j (vw μ)) (hR : RelXM μ (vw μ))
    (k : ∀ μ', IM (j + 1) (vw μ') → RelXM μ' (vw μ') → G V E μ' 714 [some (.ref b), some (vr V 63), some (vr V 76), some (vi (i : Int))] []) : G V E μ 625 [some (.ref b), some (vr V 63), some (vr V 76), some (vi (i : Int))] [] := by
  refine g_aload_n hX dL_law_625 rfl ?_
  refine g_scr hX dL_law_626 rfl ?_
  refine g_iload_n hX dL_law_627 rfl ?_
  refine g_iconst hX dL_law_628 ?_
  refine g_iadd hX dL_law_629 ?_
  refine g_sld (i := i + 1) hX hs dL_law_630 (by omega) (by omega) ?_
  refine g_scr hX dL_law_631 rfl ?_
  refine g_iload_n hX dL_law_632 rfl ?_
  refine g_iconst hX dL_law_633 ?_
  refine g_iadd hX dL_law_634 ?_
  refine g_sld (i := i + 2) hX hs dL_law_635 (by omega) (by omega) ?_
  refine g_v2I hX lk_L_81 dL_law_636 (c0 := 6) ok63 ⟨_, rfl, rfl⟩ (x_at hI hR hM (iR _) (iR _)) (by first | decide | omega) (by decide) rfl (Nat.le_of_ble_eq_true rfl) (fun z μ1 hp => ?_)
  obtain ⟨hz, hR1, hv1⟩ := hp
  have hM1 : IM j (vw μ1) := by rw [hv1]; exact hM
  refine g_aload_n hX dL_law_639 rfl ?_
  refine g_scr hX dL_law_640 rfl ?_
  refine g_iload_n hX dL_law_641 rfl ?_
  refine g_iconst hX dL_law_642 ?_
  refine g_iadd hX dL_law_643 ?_
  refine g_sld (i := i + 1) hX hs dL_law_644 (by omega) (by omega) ?_
  refine g_scr hX dL_law_645 rfl ?_
  refine g_iload_n hX dL_law_646 rfl ?_
  refine g_iconst hX dL_law_647 ?_
  refine g_iadd hX dL_law_648 ?_
  refine g_sld (i := i + 2) hX hs dL_law_649 (by omega) (by omega) ?_
  refine g_v2I hX lk_L_84 dL_law_650 (c0 := 7) ok76 ⟨_, rfl, rfl⟩ (m_at hI hM1 (iR _) (iR _)) (by first | decide | omega) (by decide) rfl (Nat.le_of_ble_eq_true rfl) (fun z' μ2 hp => ?_)
  obtain ⟨hz2, hv2, hk2⟩ := hp
  rw [hv1] at hz2 hv2
  rw [hz, hz2]
  refine g_same (tgt := 714) hX dL_law_653 (by decide) (k μ2 ?_ ?_)
  · rw [hv2]; exact IM_up (sp_id_at hM)
  · rw [hv2]; exact R_scr hR1 (fun q hq => hk2 q (by omega))
theorem law_bed {V : VX} {E : EX} {n lvl Ls j i b : Nat} {xs : Nat → Int32} {μ : Mem} (hX : OkX V E RL cL_law 4 lvl) (hI : InjV V) (hlv : 51 < lvl) (hs : ScrX E b Ls xs) (hi : i + 4 < Ls) (hj : j ≤ 100000) (hM : IM j (vw μ)) (hR : RelXM μ (vw μ))
    (k : ∀ μ', IM (j + 1) (vw μ') → RelXM μ' (vw μ') → G V E μ' 714 [some (.ref b), some (vr V 63), some (vr V 76), some (vi (i : Int))] []) : G V E μ 658 [some (.ref b), some (vr V 63), some (vr V 76), some (vi (i : Int))] [] := by
  refine g_aload_n hX dL_law_658 rfl ?_
  refine g_scr hX dL_law_659 rfl ?_
  refine g_iload_n hX dL_law_660 rfl ?_
  refine g_iconst hX dL_law_661 ?_
  refine g_iadd hX dL_law_662 ?_
  refine g_sld (i := i + 1) hX hs dL_law_663 (by omega) (by omega) ?_
  refine g_scr hX dL_law_664 rfl ?_
  refine g_iload_n hX dL_law_665 rfl ?_
  refine g_iconst hX dL_law_666 ?_
  refine g_iadd hX dL_law_667 ?_
  refine g_sld (i := i + 2) hX hs dL_law_668 (by omega) (by omega) ?_
  refine g_v2I hX lk_L_85 dL_law_669 (c0 := 6) ok63 ⟨_, rfl, rfl⟩ (x_bed hI hR hM (iR _) (iR _)) (by first | decide | omega) (by decide) rfl (Nat.le_of_ble_eq_true rfl) (fun z μ1 hp => ?_)
  obtain ⟨hz, hR1, hv1⟩ := hp
  have hM1 : IM j (vw μ1) := by rw [hv1]; exact hM
  refine g_aload_n hX dL_law_672 rfl ?_
  refine g_scr hX dL_law_673 rfl ?_
  refine g_iload_n hX dL_law_674 rfl ?_
  refine g_iconst hX dL_law_675 ?_
  refine g_iadd hX dL_law_676 ?_
  refine g_sld (i := i + 1) hX hs dL_law_677 (by omega) (by omega) ?_
  refine g_scr hX dL_law_678 rfl ?_
  refine g_iload_n hX dL_law_679 rfl ?_
  refine g_iconst hX dL_law_680 ?_
  refine g_iadd hX dL_law_681 ?_
  refine g_sld (i := i + 2) hX hs dL_law_682 (by omega) (by omega) ?_
  refine g_v2I hX lk_L_88 dL_law_683 (c0 := 7) ok76 ⟨_, rfl, rfl⟩ (m_bed hI hM1 (iR _) (iR _)) (by first | decide | omega) (by decide) rfl (Nat.le_of_ble_eq_true rfl) (fun z' μ2 hp => ?_)
  obtain ⟨hz2, hv2, hk2⟩ := hp
  rw [hv1] at hz2 hv2
  rw [hz, hz2]
  refine g_same (tgt := 714) hX dL_law_686 (by decide) (k μ2 ?_ ?_)
  · rw [hv2]; exact IM_up (sp_id_bed hM)
  · rw [hv2]; exact R_scr hR1 (fun q hq => hk2 q (by omega))
theorem law_count {V : VX} {E : EX} {n lvl Ls j i b : Nat} {xs : Nat → Int32} {μ : Mem} (hX : OkX V E RL cL_law 4 lvl) (hI : InjV V) (hlv : 51 < lvl) (hs : ScrX E b Ls xs) (hi : i + 4 < Ls) (hj : j ≤ 100000) (hM : IM j (vw μ)) (hR : RelXM μ (vw μ))
    (k : ∀ μ', IM (j + 1) (vw μ') → RelXM μ' (vw μ') → G V E μ' 714 [some (.ref b), some (vr V 63), some (vr V 76), some (vi (i : Int))] []) : G V E μ 691 [some (.ref b), some (vr V 63), some (vr V 76), some (vi (i : Int))] [] := by
  refine g_aload_n hX dL_law_691 rfl ?_
  refine g_scr hX dL_law_692 rfl ?_
  refine g_iload_n hX dL_law_693 rfl ?_
  refine g_iconst hX dL_law_694 ?_
  refine g_iadd hX dL_law_695 ?_
  refine g_sld (i := i + 1) hX hs dL_law_696 (by omega) (by omega) ?_
  refine g_v1I hX lk_L_89 dL_law_697 (c0 := 6) ok63 ⟨_, rfl, rfl⟩ (x_count hI hR hM (iR _)) (by first | decide | omega) (by decide) rfl (Nat.le_of_ble_eq_true rfl) (fun z μ1 hp => ?_)
  obtain ⟨hz, hR1, hv1⟩ := hp
  have hM1 : IM j (vw μ1) := by rw [hv1]; exact hM
  refine g_aload_n hX dL_law_700 rfl ?_
  refine g_scr hX dL_law_701 rfl ?_
  refine g_iload_n hX dL_law_702 rfl ?_
  refine g_iconst hX dL_law_703 ?_
  refine g_iadd hX dL_law_704 ?_
  refine g_sld (i := i + 1) hX hs dL_law_705 (by omega) (by omega) ?_
  refine g_v1I hX lk_L_92 dL_law_706 (c0 := 7) ok76 ⟨_, rfl, rfl⟩ (m_count hI hM1 (iR _)) (by first | decide | omega) (by decide) rfl (Nat.le_of_ble_eq_true rfl) (fun z' μ2 hp => ?_)
  obtain ⟨hz2, hv2, hk2⟩ := hp
  rw [hv1] at hz2 hv2
  rw [hz, hz2]
  refine g_same (tgt := 714) hX dL_law_709 (by decide) (k μ2 ?_ ?_)
  · rw [hv2]; exact IM_up (sp_id_count hM)
  · rw [hv2]; exact R_scr hR1 (fun q hq => hk2 q (by omega))
theorem op_rng (x : Int32) : 0 ≤ (Int32.ofInt x.toInt &&& Int32.ofInt 31).toInt ∧ (Int32.ofInt x.toInt &&& Int32.ofInt 31).toInt ≤ 31 := by
  rw [iT]
  have h1 : (x &&& Int32.ofInt 31).toBitVec.toNat ≤ 31 := by
    rw [Int32.toBitVec_and, BitVec.toNat_and]
    exact Nat.and_le_right
  have h2 : (x &&& Int32.ofInt 31).toInt = ((x &&& Int32.ofInt 31).toBitVec.toNat : Int) := BitVec.toInt_eq_toNat_of_lt (by omega)
  omega
/-- the law's loop -/
theorem law_loop {V : VX} {E : EX} {lvl Ls b : Nat} {xs : Nat → Int32} (hX : OkX V E RL cL_law 4 lvl) (hI : InjV V) (hlv : 51 < lvl) (hs : ScrX E b Ls xs) (fin : ∀ (μ : Mem) (L : List (Option Value)), G V E μ 721 L [vi 1]) :
    ∀ (f j : Nat) (μ : Mem), Ls ≤ 5 * j + f → j ≤ 1000 → IM j (vw μ) → RelXM μ (vw μ) → G V E μ 18 [some (.ref b), some (vr V 63), some (vr V 76), some (vi ((5 * j : Nat) : Int))] [] := by
  have hL := hs.2.2.2
  intro f
  induction f with
  | zero =>
    intro j μ hf hj hM hR
    have i := 5 * j
    refine g_iload_n hX dL_law_18 rfl ?_
    refine g_scr hX dL_law_19 rfl ?_
    refine g_slen hX hs dL_law_20 ?_
    refine g_iconst hX dL_law_21 ?_
    refine g_isub hX dL_law_22 ?_
    refine g_icmp_gt (tgt := 720) hX dL_law_23 (by decide) ⟨by omega, by omega⟩ ⟨by omega, by omega⟩ (fun _ => ?_) (fun hc => absurd hc (by omega))
    refine g_iconst hX dL_law_720 ?_
    exact fin μ _
  | succ f ih =>
    intro j μ hf hj hM hR
    obtain ⟨i, hi⟩ : ∃ i : Nat, i = 5 * j := ⟨_, rfl⟩
    rw [← hi]
    refine g_iload_n hX dL_law_18 rfl ?_
    refine g_scr hX dL_law_19 rfl ?_
    refine g_slen hX hs dL_law_20 ?_
    refine g_iconst hX dL_law_21 ?_
    refine g_isub hX dL_law_22 ?_
    refine g_icmp_gt (tgt := 720) hX dL_law_23 (by decide) ⟨by omega, by omega⟩ ⟨by omega, by omega⟩ (fun h1 => ?_) (fun h1 => ?_)
    · refine g_iconst hX dL_law_720 ?_
      exact fin μ _
    have h4 : i + 4 < Ls := by omega
    have nx : ∀ μ', IM (j + 1) (vw μ') → RelXM μ' (vw μ') → G V E μ' 714 [some (.ref b), some (vr V 63), some (vr V 76), some (vi (i : Int))] [] := fun μ' hM' hR' => by
      refine st_iinc_4_3 hX dL_law_714 (by first | exact ck_i _ | exact ck_r _ _ | exact ck_n | exact ck_0) ?_
      refine g_goto (tgt := 18) hX dL_law_717 (by decide) ?_
      have := ih (j + 1) μ' (by omega) (by omega) hM' hR'
      rw [show ((5 * (j + 1) : Nat) : Int) = (i : Int) + 5 by omega] at this
      exact this
    have hop := op_rng (xs (i + 0))
    refine g_scr hX dL_law_26 rfl ?_
    refine g_iload_n hX dL_law_27 rfl ?_
    refine g_sld (i := i + 0) hX hs dL_law_28 (by omega) (by omega) ?_
    refine g_bipush hX dL_law_29 rfl ?_
    refine g_iand hX dL_law_31 ?_
    generalize (Int32.ofInt (xs (i + 0)).toInt &&& Int32.ofInt 31).toInt = op at hop ⊢
    have hcs : op = 0 ∨ op = 1 ∨ op = 2 ∨ op = 3 ∨ op = 4 ∨ op = 5 ∨ op = 6 ∨ op = 7 ∨ op = 8 ∨ op = 9 ∨ op = 10 ∨ op = 11 ∨ op = 12 ∨ op = 13 ∨ op = 14 ∨ op = 15 ∨ op = 16 ∨ op = 17 ∨ 17 < op := by omega
    rcases hcs with rfl | rfl | rfl | rfl | rfl | rfl | rfl | rfl | rfl | rfl | rfl | rfl | rfl | rfl | rfl | rfl | rfl | rfl | h
    · refine g_tin (tgt := 120) hX dL_law_32 ⟨by decide, by decide⟩ (by decide) (by decide) rfl (by decide) ?_
      exact law_part (n := 4) hX hI hlv hs h4 (by omega) hM hR nx
    · refine g_tin (tgt := 163) hX dL_law_32 ⟨by decide, by decide⟩ (by decide) (by decide) rfl (by decide) ?_
      exact law_need (n := 4) hX hI hlv hs h4 (by omega) hM hR nx
    · refine g_tin (tgt := 196) hX dL_law_32 ⟨by decide, by decide⟩ (by decide) (by decide) rfl (by decide) ?_
      exact law_casts (n := 4) hX hI hlv hs h4 (by omega) hM hR nx
    · refine g_tin (tgt := 239) hX dL_law_32 ⟨by decide, by decide⟩ (by decide) (by decide) rfl (by decide) ?_
      exact law_cast (n := 4) hX hI hlv hs h4 (by omega) hM hR nx
    · refine g_tin (tgt := 282) hX dL_law_32 ⟨by decide, by decide⟩ (by decide) (by decide) rfl (by decide) ?_
      exact law_warmth (n := 4) hX hI hlv hs h4 (by omega) hM hR nx
    · refine g_tin (tgt := 305) hX dL_law_32 ⟨by decide, by decide⟩ (by decide) (by decide) rfl (by decide) ?_
      exact law_hours (n := 4) hX hI hlv hs h4 (by omega) hM hR nx
    · refine g_tin (tgt := 328) hX dL_law_32 ⟨by decide, by decide⟩ (by decide) (by decide) rfl (by decide) ?_
      exact law_letGo (n := 4) hX hI hlv hs h4 (by omega) hM hR nx
    · refine g_tin (tgt := 351) hX dL_law_32 ⟨by decide, by decide⟩ (by decide) (by decide) rfl (by decide) ?_
      exact law_stack (n := 4) hX hI hlv hs h4 (by omega) hM hR nx
    · refine g_tin (tgt := 384) hX dL_law_32 ⟨by decide, by decide⟩ (by decide) (by decide) rfl (by decide) ?_
      exact law_move (n := 4) hX hI hlv hs h4 (by omega) hM hR nx
    · refine g_tin (tgt := 417) hX dL_law_32 ⟨by decide, by decide⟩ (by decide) (by decide) rfl (by decide) ?_
      exact law_diggings (n := 4) hX hI hlv hs h4 (by omega) hM hR nx
    · refine g_tin (tgt := 480) hX dL_law_32 ⟨by decide, by decide⟩ (by decide) (by decide) rfl (by decide) ?_
      exact law_load (n := 4) hX hI hlv hs h4 (by omega) hM hR nx
    · refine g_tin (tgt := 503) hX dL_law_32 ⟨by decide, by decide⟩ (by decide) (by decide) rfl (by decide) ?_
      exact law_go (n := 4) hX hI hlv hs h4 (by omega) hM hR nx
    · refine g_tin (tgt := 516) hX dL_law_32 ⟨by decide, by decide⟩ (by decide) (by decide) rfl (by decide) ?_
      exact law_lorry (n := 4) hX hI hlv hs h4 (by omega) hM hR nx
    · refine g_tin (tgt := 539) hX dL_law_32 ⟨by decide, by decide⟩ (by decide) (by decide) rfl (by decide) ?_
      exact law_change (n := 4) hX hI hlv hs h4 (by omega) hM hR nx
    · refine g_tin (tgt := 592) hX dL_law_32 ⟨by decide, by decide⟩ (by decide) (by decide) rfl (by decide) ?_
      exact law_told (n := 4) hX hI hlv hs h4 (by omega) hM hR nx
    · refine g_tin (tgt := 625) hX dL_law_32 ⟨by decide, by decide⟩ (by decide) (by decide) rfl (by decide) ?_
      exact law_at (n := 4) hX hI hlv hs h4 (by omega) hM hR nx
    · refine g_tin (tgt := 658) hX dL_law_32 ⟨by decide, by decide⟩ (by decide) (by decide) rfl (by decide) ?_
      exact law_bed (n := 4) hX hI hlv hs h4 (by omega) hM hR nx
    · refine g_tin (tgt := 691) hX dL_law_32 ⟨by decide, by decide⟩ (by decide) (by decide) rfl (by decide) ?_
      exact law_count (n := 4) hX hI hlv hs h4 (by omega) hM hR nx
    · refine g_tout (tgt := 714) hX dL_law_32 ⟨by omega, by omega⟩ (by omega) (by decide) ?_
      exact nx μ (IM_up hM) hR
