/-! ===== THE LAW: its cases ===== -/
def wp_case_0 (E : ms_En) (Ln : Nat) (xs : Nat → Int32) (o1 o2 o3 : Nat) (x4 : Int32) (k : ms_St → Prop) (u : ms_St) : Prop := vp_in (x4 + 1) Ln ∧ (vp_in (x4 + 2) Ln ∧ (vp_in (x4 + 3) Ln ∧ (vp_in (x4 + 4) Ln ∧ (vp_in (x4 + 5) Ln ∧ (wp_X10_append E u o1 (xs (Int32.toNatClampNeg (x4 + 1))) (xs (Int32.toNatClampNeg (x4 + 2))) (xs (Int32.toNatClampNeg (x4 + 3))) (xs (Int32.toNatClampNeg (x4 + 4))) (xs (Int32.toNatClampNeg (x4 + 5))) (fun r223 u223 => vp_in (x4 + 1) Ln ∧ (vp_in (x4 + 2) Ln ∧ (vp_in (x4 + 3) Ln ∧ (vp_in (x4 + 4) Ln ∧ (vp_in (x4 + 5) Ln ∧ (wp_X11_append E u223 o2 (xs (Int32.toNatClampNeg (x4 + 1))) (xs (Int32.toNatClampNeg (x4 + 2))) (xs (Int32.toNatClampNeg (x4 + 3))) (xs (Int32.toNatClampNeg (x4 + 4))) (xs (Int32.toNatClampNeg (x4 + 5))) (fun r257 u257 => (r223 = r257 → k u257) ∧ (¬ r223 = r257 → False)))))))))))))
set_option maxHeartbeats 4000000 in
set_option maxRecDepth 100000 in
theorem c_case_0 {p : Program} {l : Launch} {e : Env} {s : State} {m : MethodId} {args : Array Value} {below : List Frame} {meth : Method} {c : Code} {G : va_G} {cy : Nat → ClassId} {A : Nat → Prop} {L : Nat → Nat} {E : ms_En} {Q : State → Prop} (C : ms_Cx p m c cL_law 7 s args (Cond.initialized "CensusWalkLaw") "CensusWalkLaw" G cy A) (hl9 : l.stackTraces = false) (hE : ms_WT E) {b Ln : Nat} {xs : Nat → Int32} (hX : va_X b Ln xs s s.heap) (hbl : b < s.heap.size) (hbA : ¬ A b) {o1 o2 o3 : Nat} (h1 : ms_is E o1 10) (h2 : ms_is E o2 11) (h3 : ms_is E o3 14) (n3 : ms_N E o3 = 1) {k : ms_St → Prop} {x4 : Int32} {n : Nat} (hn9 : n ≤ 1000) (hk : ∀ u : ms_St, k u → ms_At p l e room_1 s m args below meth c 7 G cy A L (601024 - 4 * n) (7293034 - 24 * n) Q E u 1943 [(0, .ref b), (1, .ref (L o1)), (2, .ref (L o2)), (3, .ref (L o3)), (4, .int x4)] []) (u : ms_St) (h : wp_case_0 E Ln xs o1 o2 o3 x4 k u) : ms_At p l e room_1 s m args below meth c 7 G cy A L (601024 - 4 * (n + 1)) (7293034 - 24 * (n + 1)) Q E u 192 [(0, .ref b), (1, .ref (L o1)), (2, .ref (L o2)), (3, .ref (L o3)), (4, .int x4)] [] := by
  unfold wp_case_0 at h
  refine a_aload_n C dL_law_192 rfl 1 rfl rfl ?_
  refine a_aload_n C dL_law_193 rfl 0 rfl rfl ?_
  refine a_iload C dL_law_194 4 rfl rfl ?_
  refine a_iconst (v := 1) C dL_law_196 (by decide) rfl ?_
  refine a_iadd C dL_law_197 rfl ?_
  obtain ⟨q198, h⟩ := h
  refine a_sld C hX hbl hbA dL_law_198 q198 rfl ?_
  refine a_aload_n C dL_law_199 rfl 0 rfl rfl ?_
  refine a_iload C dL_law_200 4 rfl rfl ?_
  refine a_iconst (v := 2) C dL_law_202 (by decide) rfl ?_
  refine a_iadd C dL_law_203 rfl ?_
  obtain ⟨q204, h⟩ := h
  refine a_sld C hX hbl hbA dL_law_204 q204 rfl ?_
  refine a_aload_n C dL_law_205 rfl 0 rfl rfl ?_
  refine a_iload C dL_law_206 4 rfl rfl ?_
  refine a_iconst (v := 3) C dL_law_208 (by decide) rfl ?_
  refine a_iadd C dL_law_209 rfl ?_
  obtain ⟨q210, h⟩ := h
  refine a_sld C hX hbl hbA dL_law_210 q210 rfl ?_
  refine a_aload_n C dL_law_211 rfl 0 rfl rfl ?_
  refine a_iload C dL_law_212 4 rfl rfl ?_
  refine a_iconst (v := 4) C dL_law_214 (by decide) rfl ?_
  refine a_iadd C dL_law_215 rfl ?_
  obtain ⟨q216, h⟩ := h
  refine a_sld C hX hbl hbA dL_law_216 q216 rfl ?_
  refine a_aload_n C dL_law_217 rfl 0 rfl rfl ?_
  refine a_iload C dL_law_218 4 rfl rfl ?_
  refine a_iconst (v := 5) C dL_law_220 (by decide) rfl ?_
  refine a_iadd C dL_law_221 rfl ?_
  obtain ⟨q222, h⟩ := h
  refine a_sld C hX hbl hbA dL_law_222 q222 rfl ?_
  refine a_callVI C (c_X10_append l G cy L E hE u o1 (xs (Int32.toNatClampNeg (x4 + 1))) (xs (Int32.toNatClampNeg (x4 + 2))) (xs (Int32.toNatClampNeg (x4 + 3))) (xs (Int32.toNatClampNeg (x4 + 4))) (xs (Int32.toNatClampNeg (x4 + 5))) h1 _ h) h1 rfl (by decide) kw_2_190 kw_2_191 kw_2_192 kw_1_1 kw_2_193 rfl rfl pd_X10_append ⟨(Nat.le_of_ble_eq_true rfl), (Nat.le_of_ble_eq_true rfl)⟩ dL_law_223 rfl (Nat.le_of_ble_eq_true rfl) ⟨by show _ ≤ 601024; omega, by show _ ≤ 7293034; omega⟩ rfl (fun r223 u223 h => ?_)
  refine a_aload_n C dL_law_226 rfl 2 rfl rfl ?_
  refine a_aload_n C dL_law_227 rfl 0 rfl rfl ?_
  refine a_iload C dL_law_228 4 rfl rfl ?_
  refine a_iconst (v := 1) C dL_law_230 (by decide) rfl ?_
  refine a_iadd C dL_law_231 rfl ?_
  obtain ⟨q232, h⟩ := h
  refine a_sld C hX hbl hbA dL_law_232 q232 rfl ?_
  refine a_aload_n C dL_law_233 rfl 0 rfl rfl ?_
  refine a_iload C dL_law_234 4 rfl rfl ?_
  refine a_iconst (v := 2) C dL_law_236 (by decide) rfl ?_
  refine a_iadd C dL_law_237 rfl ?_
  obtain ⟨q238, h⟩ := h
  refine a_sld C hX hbl hbA dL_law_238 q238 rfl ?_
  refine a_aload_n C dL_law_239 rfl 0 rfl rfl ?_
  refine a_iload C dL_law_240 4 rfl rfl ?_
  refine a_iconst (v := 3) C dL_law_242 (by decide) rfl ?_
  refine a_iadd C dL_law_243 rfl ?_
  obtain ⟨q244, h⟩ := h
  refine a_sld C hX hbl hbA dL_law_244 q244 rfl ?_
  refine a_aload_n C dL_law_245 rfl 0 rfl rfl ?_
  refine a_iload C dL_law_246 4 rfl rfl ?_
  refine a_iconst (v := 4) C dL_law_248 (by decide) rfl ?_
  refine a_iadd C dL_law_249 rfl ?_
  obtain ⟨q250, h⟩ := h
  refine a_sld C hX hbl hbA dL_law_250 q250 rfl ?_
  refine a_aload_n C dL_law_251 rfl 0 rfl rfl ?_
  refine a_iload C dL_law_252 4 rfl rfl ?_
  refine a_iconst (v := 5) C dL_law_254 (by decide) rfl ?_
  refine a_iadd C dL_law_255 rfl ?_
  obtain ⟨q256, h⟩ := h
  refine a_sld C hX hbl hbA dL_law_256 q256 rfl ?_
  refine a_callVI C (c_X11_append l G cy L E hE u223 o2 (xs (Int32.toNatClampNeg (x4 + 1))) (xs (Int32.toNatClampNeg (x4 + 2))) (xs (Int32.toNatClampNeg (x4 + 3))) (xs (Int32.toNatClampNeg (x4 + 4))) (xs (Int32.toNatClampNeg (x4 + 5))) h2 _ h) h2 rfl (by decide) kw_6_90 kw_6_91 kw_6_92 kw_1_12 kw_6_93 rfl rfl pd_X11_append ⟨(Nat.le_of_ble_eq_true rfl), (Nat.le_of_ble_eq_true rfl)⟩ dL_law_257 rfl (Nat.le_of_ble_eq_true rfl) ⟨by show _ ≤ 601024; omega, by show _ ≤ 7293034; omega⟩ rfl (fun r257 u257 h => ?_)
  refine a_icmp_eq (tgt := 1943) C dL_law_260 (by decide) rfl (fun hc => ?_) (fun hc => ?_)
  · replace h := h.1 hc
    refine a_wid (k := 601024 - 4 * n) (n := 7293034 - 24 * n) (by omega) (by omega) ?_
    exact hk u257 h
  · replace h := h.2 hc
    exact h.elim
def wp_case_1 (E : ms_En) (Ln : Nat) (xs : Nat → Int32) (o1 o2 o3 : Nat) (x4 : Int32) (k : ms_St → Prop) (u : ms_St) : Prop := vp_in (x4 + 1) Ln ∧ (wp_L_load E u o1 (xs (Int32.toNatClampNeg (x4 + 1))) o3 (fun r273 u273 => vp_in (x4 + 1) Ln ∧ (wp_X11_load E u273 o2 (xs (Int32.toNatClampNeg (x4 + 1))) (fun r285 u285 => wp_X11_thrown E u285 o2 (fun r291 u291 => (r291 = r273 → (r273 = 0 → vp_in 0 1 ∧ (((lg_cmp (ms_J u291 o3 (Int32.toNatClampNeg 0)) (Int32.toInt64 r285)) = 0 → k u291) ∧ (¬ (lg_cmp (ms_J u291 o3 (Int32.toNatClampNeg 0)) (Int32.toInt64 r285)) = 0 → False))) ∧ (¬ r273 = 0 → k u291)) ∧ (¬ r291 = r273 → False))))))
set_option maxHeartbeats 4000000 in
set_option maxRecDepth 100000 in
theorem c_case_1 {p : Program} {l : Launch} {e : Env} {s : State} {m : MethodId} {args : Array Value} {below : List Frame} {meth : Method} {c : Code} {G : va_G} {cy : Nat → ClassId} {A : Nat → Prop} {L : Nat → Nat} {E : ms_En} {Q : State → Prop} (C : ms_Cx p m c cL_law 7 s args (Cond.initialized "CensusWalkLaw") "CensusWalkLaw" G cy A) (hl9 : l.stackTraces = false) (hE : ms_WT E) {b Ln : Nat} {xs : Nat → Int32} (hX : va_X b Ln xs s s.heap) (hbl : b < s.heap.size) (hbA : ¬ A b) {o1 o2 o3 : Nat} (h1 : ms_is E o1 10) (h2 : ms_is E o2 11) (h3 : ms_is E o3 14) (n3 : ms_N E o3 = 1) {k : ms_St → Prop} {x4 : Int32} {n : Nat} (hn9 : n ≤ 1000) (hk : ∀ u : ms_St, k u → ms_At p l e room_1 s m args below meth c 7 G cy A L (601024 - 4 * n) (7293034 - 24 * n) Q E u 1943 [(0, .ref b), (1, .ref (L o1)), (2, .ref (L o2)), (3, .ref (L o3)), (4, .int x4)] []) (u : ms_St) (h : wp_case_1 E Ln xs o1 o2 o3 x4 k u) : ms_At p l e room_1 s m args below meth c 7 G cy A L (601024 - 4 * (n + 1)) (7293034 - 24 * (n + 1)) Q E u 265 [(0, .ref b), (1, .ref (L o1)), (2, .ref (L o2)), (3, .ref (L o3)), (4, .int x4)] [] := by
  unfold wp_case_1 at h
  refine a_aload_n C dL_law_265 rfl 1 rfl rfl ?_
  refine a_aload_n C dL_law_266 rfl 0 rfl rfl ?_
  refine a_iload C dL_law_267 4 rfl rfl ?_
  refine a_iconst (v := 1) C dL_law_269 (by decide) rfl ?_
  refine a_iadd C dL_law_270 rfl ?_
  obtain ⟨q271, h⟩ := h
  refine a_sld C hX hbl hbA dL_law_271 q271 rfl ?_
  refine a_aload_n C dL_law_272 rfl 3 rfl rfl ?_
  refine a_callZI C (c_L_load l G cy L E hE hl9 u o1 (xs (Int32.toNatClampNeg (x4 + 1))) o3 h1 h3 _ h) kw_3_129 kw_3_130 kw_1_0 kw_3_131 rfl rfl pd_L_load ⟨(Nat.le_of_ble_eq_true rfl), (Nat.le_of_ble_eq_true rfl)⟩ dL_law_273 rfl (Nat.le_of_ble_eq_true rfl) ⟨by show _ ≤ 601024; omega, by show _ ≤ 7293034; omega⟩ rfl (fun r273 u273 h => ?_)
  refine a_istore (lv' := [(0, .ref b), (1, .ref (L o1)), (2, .ref (L o2)), (3, .ref (L o3)), (4, .int x4), (5, .int r273)]) C dL_law_276 (by decide) [1, 2, 3, 4, 5, 0] rfl rfl ?_
  refine a_aload_n C dL_law_278 rfl 2 rfl rfl ?_
  refine a_aload_n C dL_law_279 rfl 0 rfl rfl ?_
  refine a_iload C dL_law_280 4 rfl rfl ?_
  refine a_iconst (v := 1) C dL_law_282 (by decide) rfl ?_
  refine a_iadd C dL_law_283 rfl ?_
  obtain ⟨q284, h⟩ := h
  refine a_sld C hX hbl hbA dL_law_284 q284 rfl ?_
  refine a_callVI C (c_X11_load l G cy L E hE u273 o2 (xs (Int32.toNatClampNeg (x4 + 1))) h2 _ h) h2 rfl (by decide) kw_6_94 kw_6_95 kw_6_96 kw_1_12 kw_6_97 rfl rfl pd_X11_load ⟨(Nat.le_of_ble_eq_true rfl), (Nat.le_of_ble_eq_true rfl)⟩ dL_law_285 rfl (Nat.le_of_ble_eq_true rfl) ⟨by show _ ≤ 601024; omega, by show _ ≤ 7293034; omega⟩ rfl (fun r285 u285 h => ?_)
  refine a_istore (lv' := [(0, .ref b), (1, .ref (L o1)), (2, .ref (L o2)), (3, .ref (L o3)), (4, .int x4), (5, .int r273), (6, .int r285)]) C dL_law_288 (by decide) [1, 2, 3, 4, 5, 6, 0] rfl rfl ?_
  refine a_aload_n C dL_law_290 rfl 2 rfl rfl ?_
  refine a_callVI C (c_X11_thrown l G cy L E hE u285 o2 h2 _ h) h2 rfl (by decide) kw_6_86 kw_6_87 kw_6_88 kw_1_12 kw_6_89 rfl rfl pd_X11_thrown ⟨(Nat.le_of_ble_eq_true rfl), (Nat.le_of_ble_eq_true rfl)⟩ dL_law_291 rfl (Nat.le_of_ble_eq_true rfl) ⟨by show _ ≤ 601024; omega, by show _ ≤ 7293034; omega⟩ rfl (fun r291 u291 h => ?_)
  refine a_iload C dL_law_294 5 rfl rfl ?_
  refine a_icmp_eq (tgt := 301) C dL_law_296 (by decide) rfl (fun hc => ?_) (fun hc => ?_)
  · replace h := h.1 hc
    refine a_iload C dL_law_301 5 rfl rfl ?_
    refine a_if_ne (tgt := 318) C dL_law_303 (by decide) rfl (fun hc => ?_) (fun hc => ?_)
    · replace h := h.2 hc
      refine a_goto (tgt := 1943) C dL_law_318 (by decide) ?_
      refine a_sub (lv' := [(0, .ref b), (1, .ref (L o1)), (2, .ref (L o2)), (3, .ref (L o3)), (4, .int x4)]) [0, 1, 2, 3, 4] rfl ?_
      refine a_wid (k := 601024 - 4 * n) (n := 7293034 - 24 * n) (by omega) (by omega) ?_
      exact hk u291 h
    · replace h := h.1 hc
      refine a_aload_n C dL_law_306 rfl 3 rfl rfl ?_
      refine a_iconst (v := 0) C dL_law_307 (by decide) rfl ?_
      obtain ⟨q308, h⟩ := h
      refine a_lald C dL_law_308 h3 n3 q308 rfl ?_
      refine a_iload C dL_law_309 6 rfl rfl ?_
      refine a_i2l C dL_law_311 rfl ?_
      refine a_lcmp C dL_law_312 rfl ?_
      refine a_if_eq (tgt := 318) C dL_law_313 (by decide) rfl (fun hc => ?_) (fun hc => ?_)
      · replace h := h.1 hc
        refine a_goto (tgt := 1943) C dL_law_318 (by decide) ?_
        refine a_sub (lv' := [(0, .ref b), (1, .ref (L o1)), (2, .ref (L o2)), (3, .ref (L o3)), (4, .int x4)]) [0, 1, 2, 3, 4] rfl ?_
        refine a_wid (k := 601024 - 4 * n) (n := 7293034 - 24 * n) (by omega) (by omega) ?_
        exact hk u291 h
      · replace h := h.2 hc
        exact h.elim
  · replace h := h.2 hc
    exact h.elim
def wp_case_2 (E : ms_En) (Ln : Nat) (xs : Nat → Int32) (o1 o2 o3 : Nat) (x4 : Int32) (k : ms_St → Prop) (u : ms_St) : Prop := wp_X10_errorOffset E u o1 (fun r322 u322 => wp_X11_errorOffset E u322 o2 (fun r326 u326 => (r322 = r326 → k u326) ∧ (¬ r322 = r326 → False)))
set_option maxHeartbeats 4000000 in
set_option maxRecDepth 100000 in
theorem c_case_2 {p : Program} {l : Launch} {e : Env} {s : State} {m : MethodId} {args : Array Value} {below : List Frame} {meth : Method} {c : Code} {G : va_G} {cy : Nat → ClassId} {A : Nat → Prop} {L : Nat → Nat} {E : ms_En} {Q : State → Prop} (C : ms_Cx p m c cL_law 7 s args (Cond.initialized "CensusWalkLaw") "CensusWalkLaw" G cy A) (hl9 : l.stackTraces = false) (hE : ms_WT E) {b Ln : Nat} {xs : Nat → Int32} (hX : va_X b Ln xs s s.heap) (hbl : b < s.heap.size) (hbA : ¬ A b) {o1 o2 o3 : Nat} (h1 : ms_is E o1 10) (h2 : ms_is E o2 11) (h3 : ms_is E o3 14) (n3 : ms_N E o3 = 1) {k : ms_St → Prop} {x4 : Int32} {n : Nat} (hn9 : n ≤ 1000) (hk : ∀ u : ms_St, k u → ms_At p l e room_1 s m args below meth c 7 G cy A L (601024 - 4 * n) (7293034 - 24 * n) Q E u 1943 [(0, .ref b), (1, .ref (L o1)), (2, .ref (L o2)), (3, .ref (L o3)), (4, .int x4)] []) (u : ms_St) (h : wp_case_2 E Ln xs o1 o2 o3 x4 k u) : ms_At p l e room_1 s m args below meth c 7 G cy A L (601024 - 4 * (n + 1)) (7293034 - 24 * (n + 1)) Q E u 321 [(0, .ref b), (1, .ref (L o1)), (2, .ref (L o2)), (3, .ref (L o3)), (4, .int x4)] [] := by
  unfold wp_case_2 at h
  refine a_aload_n C dL_law_321 rfl 1 rfl rfl ?_
  refine a_callVI C (c_X10_errorOffset l G cy L E hE u o1 h1 _ h) h1 rfl (by decide) kw_2_198 kw_2_199 kw_2_200 kw_1_1 kw_2_201 rfl rfl pd_X10_errorOffset ⟨(Nat.le_of_ble_eq_true rfl), (Nat.le_of_ble_eq_true rfl)⟩ dL_law_322 rfl (Nat.le_of_ble_eq_true rfl) ⟨by show _ ≤ 601024; omega, by show _ ≤ 7293034; omega⟩ rfl (fun r322 u322 h => ?_)
  refine a_aload_n C dL_law_325 rfl 2 rfl rfl ?_
  refine a_callVI C (c_X11_errorOffset l G cy L E hE u322 o2 h2 _ h) h2 rfl (by decide) kw_6_204 kw_6_205 kw_6_206 kw_1_12 kw_6_207 rfl rfl pd_X11_errorOffset ⟨(Nat.le_of_ble_eq_true rfl), (Nat.le_of_ble_eq_true rfl)⟩ dL_law_326 rfl (Nat.le_of_ble_eq_true rfl) ⟨by show _ ≤ 601024; omega, by show _ ≤ 7293034; omega⟩ rfl (fun r326 u326 h => ?_)
  refine a_icmp_eq (tgt := 1943) C dL_law_329 (by decide) rfl (fun hc => ?_) (fun hc => ?_)
  · replace h := h.1 hc
    refine a_wid (k := 601024 - 4 * n) (n := 7293034 - 24 * n) (by omega) (by omega) ?_
    exact hk u326 h
  · replace h := h.2 hc
    exact h.elim
def wp_case_3 (E : ms_En) (Ln : Nat) (xs : Nat → Int32) (o1 o2 o3 : Nat) (x4 : Int32) (k : ms_St → Prop) (u : ms_St) : Prop := wp_X10_crossingCount E u o1 (fun r335 u335 => wp_X11_crossingCount E u335 o2 (fun r339 u339 => (r335 = r339 → k u339) ∧ (¬ r335 = r339 → False)))
set_option maxHeartbeats 4000000 in
set_option maxRecDepth 100000 in
theorem c_case_3 {p : Program} {l : Launch} {e : Env} {s : State} {m : MethodId} {args : Array Value} {below : List Frame} {meth : Method} {c : Code} {G : va_G} {cy : Nat → ClassId} {A : Nat → Prop} {L : Nat → Nat} {E : ms_En} {Q : State → Prop} (C : ms_Cx p m c cL_law 7 s args (Cond.initialized "CensusWalkLaw") "CensusWalkLaw" G cy A) (hl9 : l.stackTraces = false) (hE : ms_WT E) {b Ln : Nat} {xs : Nat → Int32} (hX : va_X b Ln xs s s.heap) (hbl : b < s.heap.size) (hbA : ¬ A b) {o1 o2 o3 : Nat} (h1 : ms_is E o1 10) (h2 : ms_is E o2 11) (h3 : ms_is E o3 14) (n3 : ms_N E o3 = 1) {k : ms_St → Prop} {x4 : Int32} {n : Nat} (hn9 : n ≤ 1000) (hk : ∀ u : ms_St, k u → ms_At p l e room_1 s m args below meth c 7 G cy A L (601024 - 4 * n) (7293034 - 24 * n) Q E u 1943 [(0, .ref b), (1, .ref (L o1)), (2, .ref (L o2)), (3, .ref (L o3)), (4, .int x4)] []) (u : ms_St) (h : wp_case_3 E Ln xs o1 o2 o3 x4 k u) : ms_At p l e room_1 s m args below meth c 7 G cy A L (601024 - 4 * (n + 1)) (7293034 - 24 * (n + 1)) Q E u 334 [(0, .ref b), (1, .ref (L o1)), (2, .ref (L o2)), (3, .ref (L o3)), (4, .int x4)] [] := by
  unfold wp_case_3 at h
  refine a_aload_n C dL_law_334 rfl 1 rfl rfl ?_
  refine a_callVI C (c_X10_crossingCount l G cy L E hE u o1 h1 _ h) h1 rfl (by decide) kw_2_202 kw_2_203 kw_2_204 kw_1_1 kw_2_205 rfl rfl pd_X10_crossingCount ⟨(Nat.le_of_ble_eq_true rfl), (Nat.le_of_ble_eq_true rfl)⟩ dL_law_335 rfl (Nat.le_of_ble_eq_true rfl) ⟨by show _ ≤ 601024; omega, by show _ ≤ 7293034; omega⟩ rfl (fun r335 u335 h => ?_)
  refine a_aload_n C dL_law_338 rfl 2 rfl rfl ?_
  refine a_callVI C (c_X11_crossingCount l G cy L E hE u335 o2 h2 _ h) h2 rfl (by decide) kw_6_208 kw_6_209 kw_6_210 kw_1_12 kw_6_211 rfl rfl pd_X11_crossingCount ⟨(Nat.le_of_ble_eq_true rfl), (Nat.le_of_ble_eq_true rfl)⟩ dL_law_339 rfl (Nat.le_of_ble_eq_true rfl) ⟨by show _ ≤ 601024; omega, by show _ ≤ 7293034; omega⟩ rfl (fun r339 u339 h => ?_)
  refine a_icmp_eq (tgt := 1943) C dL_law_342 (by decide) rfl (fun hc => ?_) (fun hc => ?_)
  · replace h := h.1 hc
    refine a_wid (k := 601024 - 4 * n) (n := 7293034 - 24 * n) (by omega) (by omega) ?_
    exact hk u339 h
  · replace h := h.2 hc
    exact h.elim
def wp_case_4 (E : ms_En) (Ln : Nat) (xs : Nat → Int32) (o1 o2 o3 : Nat) (x4 : Int32) (k : ms_St → Prop) (u : ms_St) : Prop := wp_X10_streetCount E u o1 (fun r348 u348 => wp_X11_streetCount E u348 o2 (fun r352 u352 => (r348 = r352 → k u352) ∧ (¬ r348 = r352 → False)))
set_option maxHeartbeats 4000000 in
set_option maxRecDepth 100000 in
theorem c_case_4 {p : Program} {l : Launch} {e : Env} {s : State} {m : MethodId} {args : Array Value} {below : List Frame} {meth : Method} {c : Code} {G : va_G} {cy : Nat → ClassId} {A : Nat → Prop} {L : Nat → Nat} {E : ms_En} {Q : State → Prop} (C : ms_Cx p m c cL_law 7 s args (Cond.initialized "CensusWalkLaw") "CensusWalkLaw" G cy A) (hl9 : l.stackTraces = false) (hE : ms_WT E) {b Ln : Nat} {xs : Nat → Int32} (hX : va_X b Ln xs s s.heap) (hbl : b < s.heap.size) (hbA : ¬ A b) {o1 o2 o3 : Nat} (h1 : ms_is E o1 10) (h2 : ms_is E o2 11) (h3 : ms_is E o3 14) (n3 : ms_N E o3 = 1) {k : ms_St → Prop} {x4 : Int32} {n : Nat} (hn9 : n ≤ 1000) (hk : ∀ u : ms_St, k u → ms_At p l e room_1 s m args below meth c 7 G cy A L (601024 - 4 * n) (7293034 - 24 * n) Q E u 1943 [(0, .ref b), (1, .ref (L o1)), (2, .ref (L o2)), (3, .ref (L o3)), (4, .int x4)] []) (u : ms_St) (h : wp_case_4 E Ln xs o1 o2 o3 x4 k u) : ms_At p l e room_1 s m args below meth c 7 G cy A L (601024 - 4 * (n + 1)) (7293034 - 24 * (n + 1)) Q E u 347 [(0, .ref b), (1, .ref (L o1)), (2, .ref (L o2)), (3, .ref (L o3)), (4, .int x4)] [] := by
  unfold wp_case_4 at h
  refine a_aload_n C dL_law_347 rfl 1 rfl rfl ?_
  refine a_callVI C (c_X10_streetCount l G cy L E hE u o1 h1 _ h) h1 rfl (by decide) kw_2_206 kw_2_207 kw_2_208 kw_1_1 kw_2_209 rfl rfl pd_X10_streetCount ⟨(Nat.le_of_ble_eq_true rfl), (Nat.le_of_ble_eq_true rfl)⟩ dL_law_348 rfl (Nat.le_of_ble_eq_true rfl) ⟨by show _ ≤ 601024; omega, by show _ ≤ 7293034; omega⟩ rfl (fun r348 u348 h => ?_)
  refine a_aload_n C dL_law_351 rfl 2 rfl rfl ?_
  refine a_callVI C (c_X11_streetCount l G cy L E hE u348 o2 h2 _ h) h2 rfl (by decide) kw_6_212 kw_6_213 kw_6_214 kw_1_12 kw_6_215 rfl rfl pd_X11_streetCount ⟨(Nat.le_of_ble_eq_true rfl), (Nat.le_of_ble_eq_true rfl)⟩ dL_law_352 rfl (Nat.le_of_ble_eq_true rfl) ⟨by show _ ≤ 601024; omega, by show _ ≤ 7293034; omega⟩ rfl (fun r352 u352 h => ?_)
  refine a_icmp_eq (tgt := 1943) C dL_law_355 (by decide) rfl (fun hc => ?_) (fun hc => ?_)
  · replace h := h.1 hc
    refine a_wid (k := 601024 - 4 * n) (n := 7293034 - 24 * n) (by omega) (by omega) ?_
    exact hk u352 h
  · replace h := h.2 hc
    exact h.elim
def wp_case_5 (E : ms_En) (Ln : Nat) (xs : Nat → Int32) (o1 o2 o3 : Nat) (x4 : Int32) (k : ms_St → Prop) (u : ms_St) : Prop := wp_X10_houseCount E u o1 (fun r361 u361 => wp_X11_houseCount E u361 o2 (fun r365 u365 => (r361 = r365 → k u365) ∧ (¬ r361 = r365 → False)))
set_option maxHeartbeats 4000000 in
set_option maxRecDepth 100000 in
theorem c_case_5 {p : Program} {l : Launch} {e : Env} {s : State} {m : MethodId} {args : Array Value} {below : List Frame} {meth : Method} {c : Code} {G : va_G} {cy : Nat → ClassId} {A : Nat → Prop} {L : Nat → Nat} {E : ms_En} {Q : State → Prop} (C : ms_Cx p m c cL_law 7 s args (Cond.initialized "CensusWalkLaw") "CensusWalkLaw" G cy A) (hl9 : l.stackTraces = false) (hE : ms_WT E) {b Ln : Nat} {xs : Nat → Int32} (hX : va_X b Ln xs s s.heap) (hbl : b < s.heap.size) (hbA : ¬ A b) {o1 o2 o3 : Nat} (h1 : ms_is E o1 10) (h2 : ms_is E o2 11) (h3 : ms_is E o3 14) (n3 : ms_N E o3 = 1) {k : ms_St → Prop} {x4 : Int32} {n : Nat} (hn9 : n ≤ 1000) (hk : ∀ u : ms_St, k u → ms_At p l e room_1 s m args below meth c 7 G cy A L (601024 - 4 * n) (7293034 - 24 * n) Q E u 1943 [(0, .ref b), (1, .ref (L o1)), (2, .ref (L o2)), (3, .ref (L o3)), (4, .int x4)] []) (u : ms_St) (h : wp_case_5 E Ln xs o1 o2 o3 x4 k u) : ms_At p l e room_1 s m args below meth c 7 G cy A L (601024 - 4 * (n + 1)) (7293034 - 24 * (n + 1)) Q E u 360 [(0, .ref b), (1, .ref (L o1)), (2, .ref (L o2)), (3, .ref (L o3)), (4, .int x4)] [] := by
  unfold wp_case_5 at h
  refine a_aload_n C dL_law_360 rfl 1 rfl rfl ?_
  refine a_callVI C (c_X10_houseCount l G cy L E hE u o1 h1 _ h) h1 rfl (by decide) kw_2_210 kw_2_211 kw_2_212 kw_1_1 kw_2_213 rfl rfl pd_X10_houseCount ⟨(Nat.le_of_ble_eq_true rfl), (Nat.le_of_ble_eq_true rfl)⟩ dL_law_361 rfl (Nat.le_of_ble_eq_true rfl) ⟨by show _ ≤ 601024; omega, by show _ ≤ 7293034; omega⟩ rfl (fun r361 u361 h => ?_)
  refine a_aload_n C dL_law_364 rfl 2 rfl rfl ?_
  refine a_callVI C (c_X11_houseCount l G cy L E hE u361 o2 h2 _ h) h2 rfl (by decide) kw_6_216 kw_6_217 kw_6_218 kw_1_12 kw_6_219 rfl rfl pd_X11_houseCount ⟨(Nat.le_of_ble_eq_true rfl), (Nat.le_of_ble_eq_true rfl)⟩ dL_law_365 rfl (Nat.le_of_ble_eq_true rfl) ⟨by show _ ≤ 601024; omega, by show _ ≤ 7293034; omega⟩ rfl (fun r365 u365 h => ?_)
  refine a_icmp_eq (tgt := 1943) C dL_law_368 (by decide) rfl (fun hc => ?_) (fun hc => ?_)
  · replace h := h.1 hc
    refine a_wid (k := 601024 - 4 * n) (n := 7293034 - 24 * n) (by omega) (by omega) ?_
    exact hk u365 h
  · replace h := h.2 hc
    exact h.elim
def wp_case_6 (E : ms_En) (Ln : Nat) (xs : Nat → Int32) (o1 o2 o3 : Nat) (x4 : Int32) (k : ms_St → Prop) (u : ms_St) : Prop := wp_X10_walkerCount E u o1 (fun r374 u374 => wp_X11_walkerCount E u374 o2 (fun r378 u378 => (r374 = r378 → k u378) ∧ (¬ r374 = r378 → False)))
set_option maxHeartbeats 4000000 in
set_option maxRecDepth 100000 in
theorem c_case_6 {p : Program} {l : Launch} {e : Env} {s : State} {m : MethodId} {args : Array Value} {below : List Frame} {meth : Method} {c : Code} {G : va_G} {cy : Nat → ClassId} {A : Nat → Prop} {L : Nat → Nat} {E : ms_En} {Q : State → Prop} (C : ms_Cx p m c cL_law 7 s args (Cond.initialized "CensusWalkLaw") "CensusWalkLaw" G cy A) (hl9 : l.stackTraces = false) (hE : ms_WT E) {b Ln : Nat} {xs : Nat → Int32} (hX : va_X b Ln xs s s.heap) (hbl : b < s.heap.size) (hbA : ¬ A b) {o1 o2 o3 : Nat} (h1 : ms_is E o1 10) (h2 : ms_is E o2 11) (h3 : ms_is E o3 14) (n3 : ms_N E o3 = 1) {k : ms_St → Prop} {x4 : Int32} {n : Nat} (hn9 : n ≤ 1000) (hk : ∀ u : ms_St, k u → ms_At p l e room_1 s m args below meth c 7 G cy A L (601024 - 4 * n) (7293034 - 24 * n) Q E u 1943 [(0, .ref b), (1, .ref (L o1)), (2, .ref (L o2)), (3, .ref (L o3)), (4, .int x4)] []) (u : ms_St) (h : wp_case_6 E Ln xs o1 o2 o3 x4 k u) : ms_At p l e room_1 s m args below meth c 7 G cy A L (601024 - 4 * (n + 1)) (7293034 - 24 * (n + 1)) Q E u 373 [(0, .ref b), (1, .ref (L o1)), (2, .ref (L o2)), (3, .ref (L o3)), (4, .int x4)] [] := by
  unfold wp_case_6 at h
  refine a_aload_n C dL_law_373 rfl 1 rfl rfl ?_
  refine a_callVI C (c_X10_walkerCount l G cy L E hE u o1 h1 _ h) h1 rfl (by decide) kw_2_214 kw_2_215 kw_2_216 kw_1_1 kw_2_217 rfl rfl pd_X10_walkerCount ⟨(Nat.le_of_ble_eq_true rfl), (Nat.le_of_ble_eq_true rfl)⟩ dL_law_374 rfl (Nat.le_of_ble_eq_true rfl) ⟨by show _ ≤ 601024; omega, by show _ ≤ 7293034; omega⟩ rfl (fun r374 u374 h => ?_)
  refine a_aload_n C dL_law_377 rfl 2 rfl rfl ?_
  refine a_callVI C (c_X11_walkerCount l G cy L E hE u374 o2 h2 _ h) h2 rfl (by decide) kw_6_220 kw_6_221 kw_6_222 kw_1_12 kw_6_223 rfl rfl pd_X11_walkerCount ⟨(Nat.le_of_ble_eq_true rfl), (Nat.le_of_ble_eq_true rfl)⟩ dL_law_378 rfl (Nat.le_of_ble_eq_true rfl) ⟨by show _ ≤ 601024; omega, by show _ ≤ 7293034; omega⟩ rfl (fun r378 u378 h => ?_)
  refine a_icmp_eq (tgt := 1943) C dL_law_381 (by decide) rfl (fun hc => ?_) (fun hc => ?_)
  · replace h := h.1 hc
    refine a_wid (k := 601024 - 4 * n) (n := 7293034 - 24 * n) (by omega) (by omega) ?_
    exact hk u378 h
  · replace h := h.2 hc
    exact h.elim
def wp_case_7 (E : ms_En) (Ln : Nat) (xs : Nat → Int32) (o1 o2 o3 : Nat) (x4 : Int32) (k : ms_St → Prop) (u : ms_St) : Prop := vp_in (x4 + 1) Ln ∧ (vp_in (x4 + 2) Ln ∧ (wp_L_distance E u o1 (xs (Int32.toNatClampNeg (x4 + 1))) (xs (Int32.toNatClampNeg (x4 + 2))) o3 (fun r400 u400 => vp_in (x4 + 1) Ln ∧ (vp_in (x4 + 2) Ln ∧ (wp_X11_distance E u400 o2 (xs (Int32.toNatClampNeg (x4 + 1))) (xs (Int32.toNatClampNeg (x4 + 2))) (fun r418 u418 => wp_X11_thrown E u418 o2 (fun r424 u424 => (r424 = r400 → (r400 = 0 → vp_in 0 1 ∧ (((lg_cmp (ms_J u424 o3 (Int32.toNatClampNeg 0)) (Int32.toInt64 r418)) = 0 → k u424) ∧ (¬ (lg_cmp (ms_J u424 o3 (Int32.toNatClampNeg 0)) (Int32.toInt64 r418)) = 0 → False))) ∧ (¬ r400 = 0 → k u424)) ∧ (¬ r424 = r400 → False))))))))
set_option maxHeartbeats 4000000 in
set_option maxRecDepth 100000 in
theorem c_case_7 {p : Program} {l : Launch} {e : Env} {s : State} {m : MethodId} {args : Array Value} {below : List Frame} {meth : Method} {c : Code} {G : va_G} {cy : Nat → ClassId} {A : Nat → Prop} {L : Nat → Nat} {E : ms_En} {Q : State → Prop} (C : ms_Cx p m c cL_law 7 s args (Cond.initialized "CensusWalkLaw") "CensusWalkLaw" G cy A) (hl9 : l.stackTraces = false) (hE : ms_WT E) {b Ln : Nat} {xs : Nat → Int32} (hX : va_X b Ln xs s s.heap) (hbl : b < s.heap.size) (hbA : ¬ A b) {o1 o2 o3 : Nat} (h1 : ms_is E o1 10) (h2 : ms_is E o2 11) (h3 : ms_is E o3 14) (n3 : ms_N E o3 = 1) {k : ms_St → Prop} {x4 : Int32} {n : Nat} (hn9 : n ≤ 1000) (hk : ∀ u : ms_St, k u → ms_At p l e room_1 s m args below meth c 7 G cy A L (601024 - 4 * n) (7293034 - 24 * n) Q E u 1943 [(0, .ref b), (1, .ref (L o1)), (2, .ref (L o2)), (3, .ref (L o3)), (4, .int x4)] []) (u : ms_St) (h : wp_case_7 E Ln xs o1 o2 o3 x4 k u) : ms_At p l e room_1 s m args below meth c 7 G cy A L (601024 - 4 * (n + 1)) (7293034 - 24 * (n + 1)) Q E u 386 [(0, .ref b), (1, .ref (L o1)), (2, .ref (L o2)), (3, .ref (L o3)), (4, .int x4)] [] := by
  unfold wp_case_7 at h
  refine a_aload_n C dL_law_386 rfl 1 rfl rfl ?_
  refine a_aload_n C dL_law_387 rfl 0 rfl rfl ?_
  refine a_iload C dL_law_388 4 rfl rfl ?_
  refine a_iconst (v := 1) C dL_law_390 (by decide) rfl ?_
  refine a_iadd C dL_law_391 rfl ?_
  obtain ⟨q392, h⟩ := h
  refine a_sld C hX hbl hbA dL_law_392 q392 rfl ?_
  refine a_aload_n C dL_law_393 rfl 0 rfl rfl ?_
  refine a_iload C dL_law_394 4 rfl rfl ?_
  refine a_iconst (v := 2) C dL_law_396 (by decide) rfl ?_
  refine a_iadd C dL_law_397 rfl ?_
  obtain ⟨q398, h⟩ := h
  refine a_sld C hX hbl hbA dL_law_398 q398 rfl ?_
  refine a_aload_n C dL_law_399 rfl 3 rfl rfl ?_
  refine a_callZI C (c_L_distance l G cy L E hE hl9 u o1 (xs (Int32.toNatClampNeg (x4 + 1))) (xs (Int32.toNatClampNeg (x4 + 2))) o3 h1 h3 _ h) kw_4_144 kw_4_145 kw_1_0 kw_4_146 rfl rfl pd_L_distance ⟨(Nat.le_of_ble_eq_true rfl), (Nat.le_of_ble_eq_true rfl)⟩ dL_law_400 rfl (Nat.le_of_ble_eq_true rfl) ⟨by show _ ≤ 601024; omega, by show _ ≤ 7293034; omega⟩ rfl (fun r400 u400 h => ?_)
  refine a_istore (lv' := [(0, .ref b), (1, .ref (L o1)), (2, .ref (L o2)), (3, .ref (L o3)), (4, .int x4), (5, .int r400)]) C dL_law_403 (by decide) [1, 2, 3, 4, 5, 0] rfl rfl ?_
  refine a_aload_n C dL_law_405 rfl 2 rfl rfl ?_
  refine a_aload_n C dL_law_406 rfl 0 rfl rfl ?_
  refine a_iload C dL_law_407 4 rfl rfl ?_
  refine a_iconst (v := 1) C dL_law_409 (by decide) rfl ?_
  refine a_iadd C dL_law_410 rfl ?_
  obtain ⟨q411, h⟩ := h
  refine a_sld C hX hbl hbA dL_law_411 q411 rfl ?_
  refine a_aload_n C dL_law_412 rfl 0 rfl rfl ?_
  refine a_iload C dL_law_413 4 rfl rfl ?_
  refine a_iconst (v := 2) C dL_law_415 (by decide) rfl ?_
  refine a_iadd C dL_law_416 rfl ?_
  obtain ⟨q417, h⟩ := h
  refine a_sld C hX hbl hbA dL_law_417 q417 rfl ?_
  refine a_callVI C (c_X11_distance l G cy L E hE u400 o2 (xs (Int32.toNatClampNeg (x4 + 1))) (xs (Int32.toNatClampNeg (x4 + 2))) h2 _ h) h2 rfl (by decide) kw_6_224 kw_6_225 kw_6_226 kw_1_12 kw_6_227 rfl rfl pd_X11_distance ⟨(Nat.le_of_ble_eq_true rfl), (Nat.le_of_ble_eq_true rfl)⟩ dL_law_418 rfl (Nat.le_of_ble_eq_true rfl) ⟨by show _ ≤ 601024; omega, by show _ ≤ 7293034; omega⟩ rfl (fun r418 u418 h => ?_)
  refine a_istore (lv' := [(0, .ref b), (1, .ref (L o1)), (2, .ref (L o2)), (3, .ref (L o3)), (4, .int x4), (5, .int r400), (6, .int r418)]) C dL_law_421 (by decide) [1, 2, 3, 4, 5, 6, 0] rfl rfl ?_
  refine a_aload_n C dL_law_423 rfl 2 rfl rfl ?_
  refine a_callVI C (c_X11_thrown l G cy L E hE u418 o2 h2 _ h) h2 rfl (by decide) kw_6_86 kw_6_87 kw_6_88 kw_1_12 kw_6_89 rfl rfl pd_X11_thrown ⟨(Nat.le_of_ble_eq_true rfl), (Nat.le_of_ble_eq_true rfl)⟩ dL_law_424 rfl (Nat.le_of_ble_eq_true rfl) ⟨by show _ ≤ 601024; omega, by show _ ≤ 7293034; omega⟩ rfl (fun r424 u424 h => ?_)
  refine a_iload C dL_law_427 5 rfl rfl ?_
  refine a_icmp_eq (tgt := 434) C dL_law_429 (by decide) rfl (fun hc => ?_) (fun hc => ?_)
  · replace h := h.1 hc
    refine a_iload C dL_law_434 5 rfl rfl ?_
    refine a_if_ne (tgt := 451) C dL_law_436 (by decide) rfl (fun hc => ?_) (fun hc => ?_)
    · replace h := h.2 hc
      refine a_goto (tgt := 1943) C dL_law_451 (by decide) ?_
      refine a_sub (lv' := [(0, .ref b), (1, .ref (L o1)), (2, .ref (L o2)), (3, .ref (L o3)), (4, .int x4)]) [0, 1, 2, 3, 4] rfl ?_
      refine a_wid (k := 601024 - 4 * n) (n := 7293034 - 24 * n) (by omega) (by omega) ?_
      exact hk u424 h
    · replace h := h.1 hc
      refine a_aload_n C dL_law_439 rfl 3 rfl rfl ?_
      refine a_iconst (v := 0) C dL_law_440 (by decide) rfl ?_
      obtain ⟨q441, h⟩ := h
      refine a_lald C dL_law_441 h3 n3 q441 rfl ?_
      refine a_iload C dL_law_442 6 rfl rfl ?_
      refine a_i2l C dL_law_444 rfl ?_
      refine a_lcmp C dL_law_445 rfl ?_
      refine a_if_eq (tgt := 451) C dL_law_446 (by decide) rfl (fun hc => ?_) (fun hc => ?_)
      · replace h := h.1 hc
        refine a_goto (tgt := 1943) C dL_law_451 (by decide) ?_
        refine a_sub (lv' := [(0, .ref b), (1, .ref (L o1)), (2, .ref (L o2)), (3, .ref (L o3)), (4, .int x4)]) [0, 1, 2, 3, 4] rfl ?_
        refine a_wid (k := 601024 - 4 * n) (n := 7293034 - 24 * n) (by omega) (by omega) ?_
        exact hk u424 h
      · replace h := h.2 hc
        exact h.elim
  · replace h := h.2 hc
    exact h.elim
def wp_case_8 (E : ms_En) (Ln : Nat) (xs : Nat → Int32) (o1 o2 o3 : Nat) (x4 : Int32) (k : ms_St → Prop) (u : ms_St) : Prop := vp_in (x4 + 1) Ln ∧ (vp_in (x4 + 2) Ln ∧ (wp_L_distanceFrom E u o1 (xs (Int32.toNatClampNeg (x4 + 1))) (xs (Int32.toNatClampNeg (x4 + 2))) o3 (fun r468 u468 => vp_in (x4 + 1) Ln ∧ (vp_in (x4 + 2) Ln ∧ (wp_X11_distanceFrom E u468 o2 (xs (Int32.toNatClampNeg (x4 + 1))) (xs (Int32.toNatClampNeg (x4 + 2))) (fun r486 u486 => wp_X11_thrown E u486 o2 (fun r492 u492 => (r492 = r468 → (r468 = 0 → vp_in 0 1 ∧ (((lg_cmp (ms_J u492 o3 (Int32.toNatClampNeg 0)) (Int32.toInt64 r486)) = 0 → k u492) ∧ (¬ (lg_cmp (ms_J u492 o3 (Int32.toNatClampNeg 0)) (Int32.toInt64 r486)) = 0 → False))) ∧ (¬ r468 = 0 → k u492)) ∧ (¬ r492 = r468 → False))))))))
set_option maxHeartbeats 4000000 in
set_option maxRecDepth 100000 in
theorem c_case_8 {p : Program} {l : Launch} {e : Env} {s : State} {m : MethodId} {args : Array Value} {below : List Frame} {meth : Method} {c : Code} {G : va_G} {cy : Nat → ClassId} {A : Nat → Prop} {L : Nat → Nat} {E : ms_En} {Q : State → Prop} (C : ms_Cx p m c cL_law 7 s args (Cond.initialized "CensusWalkLaw") "CensusWalkLaw" G cy A) (hl9 : l.stackTraces = false) (hE : ms_WT E) {b Ln : Nat} {xs : Nat → Int32} (hX : va_X b Ln xs s s.heap) (hbl : b < s.heap.size) (hbA : ¬ A b) {o1 o2 o3 : Nat} (h1 : ms_is E o1 10) (h2 : ms_is E o2 11) (h3 : ms_is E o3 14) (n3 : ms_N E o3 = 1) {k : ms_St → Prop} {x4 : Int32} {n : Nat} (hn9 : n ≤ 1000) (hk : ∀ u : ms_St, k u → ms_At p l e room_1 s m args below meth c 7 G cy A L (601024 - 4 * n) (7293034 - 24 * n) Q E u 1943 [(0, .ref b), (1, .ref (L o1)), (2, .ref (L o2)), (3, .ref (L o3)), (4, .int x4)] []) (u : ms_St) (h : wp_case_8 E Ln xs o1 o2 o3 x4 k u) : ms_At p l e room_1 s m args below meth c 7 G cy A L (601024 - 4 * (n + 1)) (7293034 - 24 * (n + 1)) Q E u 454 [(0, .ref b), (1, .ref (L o1)), (2, .ref (L o2)), (3, .ref (L o3)), (4, .int x4)] [] := by
  unfold wp_case_8 at h
  refine a_aload_n C dL_law_454 rfl 1 rfl rfl ?_
  refine a_aload_n C dL_law_455 rfl 0 rfl rfl ?_
  refine a_iload C dL_law_456 4 rfl rfl ?_
  refine a_iconst (v := 1) C dL_law_458 (by decide) rfl ?_
  refine a_iadd C dL_law_459 rfl ?_
  obtain ⟨q460, h⟩ := h
  refine a_sld C hX hbl hbA dL_law_460 q460 rfl ?_
  refine a_aload_n C dL_law_461 rfl 0 rfl rfl ?_
  refine a_iload C dL_law_462 4 rfl rfl ?_
  refine a_iconst (v := 2) C dL_law_464 (by decide) rfl ?_
  refine a_iadd C dL_law_465 rfl ?_
  obtain ⟨q466, h⟩ := h
  refine a_sld C hX hbl hbA dL_law_466 q466 rfl ?_
  refine a_aload_n C dL_law_467 rfl 3 rfl rfl ?_
  refine a_callZI C (c_L_distanceFrom l G cy L E hE hl9 u o1 (xs (Int32.toNatClampNeg (x4 + 1))) (xs (Int32.toNatClampNeg (x4 + 2))) o3 h1 h3 _ h) kw_4_174 kw_4_175 kw_1_0 kw_4_176 rfl rfl pd_L_distanceFrom ⟨(Nat.le_of_ble_eq_true rfl), (Nat.le_of_ble_eq_true rfl)⟩ dL_law_468 rfl (Nat.le_of_ble_eq_true rfl) ⟨by show _ ≤ 601024; omega, by show _ ≤ 7293034; omega⟩ rfl (fun r468 u468 h => ?_)
  refine a_istore (lv' := [(0, .ref b), (1, .ref (L o1)), (2, .ref (L o2)), (3, .ref (L o3)), (4, .int x4), (5, .int r468)]) C dL_law_471 (by decide) [1, 2, 3, 4, 5, 0] rfl rfl ?_
  refine a_aload_n C dL_law_473 rfl 2 rfl rfl ?_
  refine a_aload_n C dL_law_474 rfl 0 rfl rfl ?_
  refine a_iload C dL_law_475 4 rfl rfl ?_
  refine a_iconst (v := 1) C dL_law_477 (by decide) rfl ?_
  refine a_iadd C dL_law_478 rfl ?_
  obtain ⟨q479, h⟩ := h
  refine a_sld C hX hbl hbA dL_law_479 q479 rfl ?_
  refine a_aload_n C dL_law_480 rfl 0 rfl rfl ?_
  refine a_iload C dL_law_481 4 rfl rfl ?_
  refine a_iconst (v := 2) C dL_law_483 (by decide) rfl ?_
  refine a_iadd C dL_law_484 rfl ?_
  obtain ⟨q485, h⟩ := h
  refine a_sld C hX hbl hbA dL_law_485 q485 rfl ?_
  refine a_callVI C (c_X11_distanceFrom l G cy L E hE u468 o2 (xs (Int32.toNatClampNeg (x4 + 1))) (xs (Int32.toNatClampNeg (x4 + 2))) h2 _ h) h2 rfl (by decide) kw_7_23 kw_7_24 kw_7_25 kw_1_12 kw_7_26 rfl rfl pd_X11_distanceFrom ⟨(Nat.le_of_ble_eq_true rfl), (Nat.le_of_ble_eq_true rfl)⟩ dL_law_486 rfl (Nat.le_of_ble_eq_true rfl) ⟨by show _ ≤ 601024; omega, by show _ ≤ 7293034; omega⟩ rfl (fun r486 u486 h => ?_)
  refine a_istore (lv' := [(0, .ref b), (1, .ref (L o1)), (2, .ref (L o2)), (3, .ref (L o3)), (4, .int x4), (5, .int r468), (6, .int r486)]) C dL_law_489 (by decide) [1, 2, 3, 4, 5, 6, 0] rfl rfl ?_
  refine a_aload_n C dL_law_491 rfl 2 rfl rfl ?_
  refine a_callVI C (c_X11_thrown l G cy L E hE u486 o2 h2 _ h) h2 rfl (by decide) kw_6_86 kw_6_87 kw_6_88 kw_1_12 kw_6_89 rfl rfl pd_X11_thrown ⟨(Nat.le_of_ble_eq_true rfl), (Nat.le_of_ble_eq_true rfl)⟩ dL_law_492 rfl (Nat.le_of_ble_eq_true rfl) ⟨by show _ ≤ 601024; omega, by show _ ≤ 7293034; omega⟩ rfl (fun r492 u492 h => ?_)
  refine a_iload C dL_law_495 5 rfl rfl ?_
  refine a_icmp_eq (tgt := 502) C dL_law_497 (by decide) rfl (fun hc => ?_) (fun hc => ?_)
  · replace h := h.1 hc
    refine a_iload C dL_law_502 5 rfl rfl ?_
    refine a_if_ne (tgt := 519) C dL_law_504 (by decide) rfl (fun hc => ?_) (fun hc => ?_)
    · replace h := h.2 hc
      refine a_goto (tgt := 1943) C dL_law_519 (by decide) ?_
      refine a_sub (lv' := [(0, .ref b), (1, .ref (L o1)), (2, .ref (L o2)), (3, .ref (L o3)), (4, .int x4)]) [0, 1, 2, 3, 4] rfl ?_
      refine a_wid (k := 601024 - 4 * n) (n := 7293034 - 24 * n) (by omega) (by omega) ?_
      exact hk u492 h
    · replace h := h.1 hc
      refine a_aload_n C dL_law_507 rfl 3 rfl rfl ?_
      refine a_iconst (v := 0) C dL_law_508 (by decide) rfl ?_
      obtain ⟨q509, h⟩ := h
      refine a_lald C dL_law_509 h3 n3 q509 rfl ?_
      refine a_iload C dL_law_510 6 rfl rfl ?_
      refine a_i2l C dL_law_512 rfl ?_
      refine a_lcmp C dL_law_513 rfl ?_
      refine a_if_eq (tgt := 519) C dL_law_514 (by decide) rfl (fun hc => ?_) (fun hc => ?_)
      · replace h := h.1 hc
        refine a_goto (tgt := 1943) C dL_law_519 (by decide) ?_
        refine a_sub (lv' := [(0, .ref b), (1, .ref (L o1)), (2, .ref (L o2)), (3, .ref (L o3)), (4, .int x4)]) [0, 1, 2, 3, 4] rfl ?_
        refine a_wid (k := 601024 - 4 * n) (n := 7293034 - 24 * n) (by omega) (by omega) ?_
        exact hk u492 h
      · replace h := h.2 hc
        exact h.elim
  · replace h := h.2 hc
    exact h.elim
def wp_case_9 (E : ms_En) (Ln : Nat) (xs : Nat → Int32) (o1 o2 o3 : Nat) (x4 : Int32) (k : ms_St → Prop) (u : ms_St) : Prop := vp_in (x4 + 1) Ln ∧ (wp_L_streetOf E u o1 (xs (Int32.toNatClampNeg (x4 + 1))) o3 (fun r530 u530 => vp_in (x4 + 1) Ln ∧ (wp_X11_streetOf E u530 o2 (xs (Int32.toNatClampNeg (x4 + 1))) (fun r542 u542 => wp_X11_thrown E u542 o2 (fun r548 u548 => (r548 = r530 → (r530 = 0 → vp_in 0 1 ∧ (((lg_cmp (ms_J u548 o3 (Int32.toNatClampNeg 0)) (Int32.toInt64 r542)) = 0 → k u548) ∧ (¬ (lg_cmp (ms_J u548 o3 (Int32.toNatClampNeg 0)) (Int32.toInt64 r542)) = 0 → False))) ∧ (¬ r530 = 0 → k u548)) ∧ (¬ r548 = r530 → False))))))
set_option maxHeartbeats 4000000 in
set_option maxRecDepth 100000 in
theorem c_case_9 {p : Program} {l : Launch} {e : Env} {s : State} {m : MethodId} {args : Array Value} {below : List Frame} {meth : Method} {c : Code} {G : va_G} {cy : Nat → ClassId} {A : Nat → Prop} {L : Nat → Nat} {E : ms_En} {Q : State → Prop} (C : ms_Cx p m c cL_law 7 s args (Cond.initialized "CensusWalkLaw") "CensusWalkLaw" G cy A) (hl9 : l.stackTraces = false) (hE : ms_WT E) {b Ln : Nat} {xs : Nat → Int32} (hX : va_X b Ln xs s s.heap) (hbl : b < s.heap.size) (hbA : ¬ A b) {o1 o2 o3 : Nat} (h1 : ms_is E o1 10) (h2 : ms_is E o2 11) (h3 : ms_is E o3 14) (n3 : ms_N E o3 = 1) {k : ms_St → Prop} {x4 : Int32} {n : Nat} (hn9 : n ≤ 1000) (hk : ∀ u : ms_St, k u → ms_At p l e room_1 s m args below meth c 7 G cy A L (601024 - 4 * n) (7293034 - 24 * n) Q E u 1943 [(0, .ref b), (1, .ref (L o1)), (2, .ref (L o2)), (3, .ref (L o3)), (4, .int x4)] []) (u : ms_St) (h : wp_case_9 E Ln xs o1 o2 o3 x4 k u) : ms_At p l e room_1 s m args below meth c 7 G cy A L (601024 - 4 * (n + 1)) (7293034 - 24 * (n + 1)) Q E u 522 [(0, .ref b), (1, .ref (L o1)), (2, .ref (L o2)), (3, .ref (L o3)), (4, .int x4)] [] := by
  unfold wp_case_9 at h
  refine a_aload_n C dL_law_522 rfl 1 rfl rfl ?_
  refine a_aload_n C dL_law_523 rfl 0 rfl rfl ?_
  refine a_iload C dL_law_524 4 rfl rfl ?_
  refine a_iconst (v := 1) C dL_law_526 (by decide) rfl ?_
  refine a_iadd C dL_law_527 rfl ?_
  obtain ⟨q528, h⟩ := h
  refine a_sld C hX hbl hbA dL_law_528 q528 rfl ?_
  refine a_aload_n C dL_law_529 rfl 3 rfl rfl ?_
  refine a_callZI C (c_L_streetOf l G cy L E hE hl9 u o1 (xs (Int32.toNatClampNeg (x4 + 1))) o3 h1 h3 _ h) kw_4_183 kw_4_184 kw_1_0 kw_4_185 rfl rfl pd_L_streetOf ⟨(Nat.le_of_ble_eq_true rfl), (Nat.le_of_ble_eq_true rfl)⟩ dL_law_530 rfl (Nat.le_of_ble_eq_true rfl) ⟨by show _ ≤ 601024; omega, by show _ ≤ 7293034; omega⟩ rfl (fun r530 u530 h => ?_)
  refine a_istore (lv' := [(0, .ref b), (1, .ref (L o1)), (2, .ref (L o2)), (3, .ref (L o3)), (4, .int x4), (5, .int r530)]) C dL_law_533 (by decide) [1, 2, 3, 4, 5, 0] rfl rfl ?_
  refine a_aload_n C dL_law_535 rfl 2 rfl rfl ?_
  refine a_aload_n C dL_law_536 rfl 0 rfl rfl ?_
  refine a_iload C dL_law_537 4 rfl rfl ?_
  refine a_iconst (v := 1) C dL_law_539 (by decide) rfl ?_
  refine a_iadd C dL_law_540 rfl ?_
  obtain ⟨q541, h⟩ := h
  refine a_sld C hX hbl hbA dL_law_541 q541 rfl ?_
  refine a_callVI C (c_X11_streetOf l G cy L E hE u530 o2 (xs (Int32.toNatClampNeg (x4 + 1))) h2 _ h) h2 rfl (by decide) kw_7_27 kw_7_28 kw_7_29 kw_1_12 kw_7_30 rfl rfl pd_X11_streetOf ⟨(Nat.le_of_ble_eq_true rfl), (Nat.le_of_ble_eq_true rfl)⟩ dL_law_542 rfl (Nat.le_of_ble_eq_true rfl) ⟨by show _ ≤ 601024; omega, by show _ ≤ 7293034; omega⟩ rfl (fun r542 u542 h => ?_)
  refine a_istore (lv' := [(0, .ref b), (1, .ref (L o1)), (2, .ref (L o2)), (3, .ref (L o3)), (4, .int x4), (5, .int r530), (6, .int r542)]) C dL_law_545 (by decide) [1, 2, 3, 4, 5, 6, 0] rfl rfl ?_
  refine a_aload_n C dL_law_547 rfl 2 rfl rfl ?_
  refine a_callVI C (c_X11_thrown l G cy L E hE u542 o2 h2 _ h) h2 rfl (by decide) kw_6_86 kw_6_87 kw_6_88 kw_1_12 kw_6_89 rfl rfl pd_X11_thrown ⟨(Nat.le_of_ble_eq_true rfl), (Nat.le_of_ble_eq_true rfl)⟩ dL_law_548 rfl (Nat.le_of_ble_eq_true rfl) ⟨by show _ ≤ 601024; omega, by show _ ≤ 7293034; omega⟩ rfl (fun r548 u548 h => ?_)
  refine a_iload C dL_law_551 5 rfl rfl ?_
  refine a_icmp_eq (tgt := 558) C dL_law_553 (by decide) rfl (fun hc => ?_) (fun hc => ?_)
  · replace h := h.1 hc
    refine a_iload C dL_law_558 5 rfl rfl ?_
    refine a_if_ne (tgt := 575) C dL_law_560 (by decide) rfl (fun hc => ?_) (fun hc => ?_)
    · replace h := h.2 hc
      refine a_goto (tgt := 1943) C dL_law_575 (by decide) ?_
      refine a_sub (lv' := [(0, .ref b), (1, .ref (L o1)), (2, .ref (L o2)), (3, .ref (L o3)), (4, .int x4)]) [0, 1, 2, 3, 4] rfl ?_
      refine a_wid (k := 601024 - 4 * n) (n := 7293034 - 24 * n) (by omega) (by omega) ?_
      exact hk u548 h
    · replace h := h.1 hc
      refine a_aload_n C dL_law_563 rfl 3 rfl rfl ?_
      refine a_iconst (v := 0) C dL_law_564 (by decide) rfl ?_
      obtain ⟨q565, h⟩ := h
      refine a_lald C dL_law_565 h3 n3 q565 rfl ?_
      refine a_iload C dL_law_566 6 rfl rfl ?_
      refine a_i2l C dL_law_568 rfl ?_
      refine a_lcmp C dL_law_569 rfl ?_
      refine a_if_eq (tgt := 575) C dL_law_570 (by decide) rfl (fun hc => ?_) (fun hc => ?_)
      · replace h := h.1 hc
        refine a_goto (tgt := 1943) C dL_law_575 (by decide) ?_
        refine a_sub (lv' := [(0, .ref b), (1, .ref (L o1)), (2, .ref (L o2)), (3, .ref (L o3)), (4, .int x4)]) [0, 1, 2, 3, 4] rfl ?_
        refine a_wid (k := 601024 - 4 * n) (n := 7293034 - 24 * n) (by omega) (by omega) ?_
        exact hk u548 h
      · replace h := h.2 hc
        exact h.elim
  · replace h := h.2 hc
    exact h.elim
def wp_case_10 (E : ms_En) (Ln : Nat) (xs : Nat → Int32) (o1 o2 o3 : Nat) (x4 : Int32) (k : ms_St → Prop) (u : ms_St) : Prop := vp_in (x4 + 1) Ln ∧ (wp_L_isOpen E u o1 (xs (Int32.toNatClampNeg (x4 + 1))) o3 (fun r586 u586 => vp_in (x4 + 1) Ln ∧ (wp_X11_isOpen E u586 o2 (xs (Int32.toNatClampNeg (x4 + 1))) (fun r598 u598 => wp_X11_thrown E u598 o2 (fun r604 u604 => (r604 = r586 → (r586 = 0 → vp_in 0 1 ∧ ((r598 = 0 → ((lg_cmp (ms_J u604 o3 (Int32.toNatClampNeg 0)) 0) = 0 → k u604) ∧ (¬ (lg_cmp (ms_J u604 o3 (Int32.toNatClampNeg 0)) 0) = 0 → False)) ∧ (¬ r598 = 0 → ((lg_cmp (ms_J u604 o3 (Int32.toNatClampNeg 0)) 1) = 0 → k u604) ∧ (¬ (lg_cmp (ms_J u604 o3 (Int32.toNatClampNeg 0)) 1) = 0 → False)))) ∧ (¬ r586 = 0 → k u604)) ∧ (¬ r604 = r586 → False))))))
set_option maxHeartbeats 4000000 in
set_option maxRecDepth 100000 in
theorem c_case_10 {p : Program} {l : Launch} {e : Env} {s : State} {m : MethodId} {args : Array Value} {below : List Frame} {meth : Method} {c : Code} {G : va_G} {cy : Nat → ClassId} {A : Nat → Prop} {L : Nat → Nat} {E : ms_En} {Q : State → Prop} (C : ms_Cx p m c cL_law 7 s args (Cond.initialized "CensusWalkLaw") "CensusWalkLaw" G cy A) (hl9 : l.stackTraces = false) (hE : ms_WT E) {b Ln : Nat} {xs : Nat → Int32} (hX : va_X b Ln xs s s.heap) (hbl : b < s.heap.size) (hbA : ¬ A b) {o1 o2 o3 : Nat} (h1 : ms_is E o1 10) (h2 : ms_is E o2 11) (h3 : ms_is E o3 14) (n3 : ms_N E o3 = 1) {k : ms_St → Prop} {x4 : Int32} {n : Nat} (hn9 : n ≤ 1000) (hk : ∀ u : ms_St, k u → ms_At p l e room_1 s m args below meth c 7 G cy A L (601024 - 4 * n) (7293034 - 24 * n) Q E u 1943 [(0, .ref b), (1, .ref (L o1)), (2, .ref (L o2)), (3, .ref (L o3)), (4, .int x4)] []) (u : ms_St) (h : wp_case_10 E Ln xs o1 o2 o3 x4 k u) : ms_At p l e room_1 s m args below meth c 7 G cy A L (601024 - 4 * (n + 1)) (7293034 - 24 * (n + 1)) Q E u 578 [(0, .ref b), (1, .ref (L o1)), (2, .ref (L o2)), (3, .ref (L o3)), (4, .int x4)] [] := by
  unfold wp_case_10 at h
  refine a_aload_n C dL_law_578 rfl 1 rfl rfl ?_
  refine a_aload_n C dL_law_579 rfl 0 rfl rfl ?_
  refine a_iload C dL_law_580 4 rfl rfl ?_
  refine a_iconst (v := 1) C dL_law_582 (by decide) rfl ?_
  refine a_iadd C dL_law_583 rfl ?_
  obtain ⟨q584, h⟩ := h
  refine a_sld C hX hbl hbA dL_law_584 q584 rfl ?_
  refine a_aload_n C dL_law_585 rfl 3 rfl rfl ?_
  refine a_callZI C (c_L_isOpen l G cy L E hE hl9 u o1 (xs (Int32.toNatClampNeg (x4 + 1))) o3 h1 h3 _ h) kw_4_190 kw_4_191 kw_1_0 kw_4_192 rfl rfl pd_L_isOpen ⟨(Nat.le_of_ble_eq_true rfl), (Nat.le_of_ble_eq_true rfl)⟩ dL_law_586 rfl (Nat.le_of_ble_eq_true rfl) ⟨by show _ ≤ 601024; omega, by show _ ≤ 7293034; omega⟩ rfl (fun r586 u586 h => ?_)
  refine a_istore (lv' := [(0, .ref b), (1, .ref (L o1)), (2, .ref (L o2)), (3, .ref (L o3)), (4, .int x4), (5, .int r586)]) C dL_law_589 (by decide) [1, 2, 3, 4, 5, 0] rfl rfl ?_
  refine a_aload_n C dL_law_591 rfl 2 rfl rfl ?_
  refine a_aload_n C dL_law_592 rfl 0 rfl rfl ?_
  refine a_iload C dL_law_593 4 rfl rfl ?_
  refine a_iconst (v := 1) C dL_law_595 (by decide) rfl ?_
  refine a_iadd C dL_law_596 rfl ?_
  obtain ⟨q597, h⟩ := h
  refine a_sld C hX hbl hbA dL_law_597 q597 rfl ?_
  refine a_callVI C (c_X11_isOpen l G cy L E hE u586 o2 (xs (Int32.toNatClampNeg (x4 + 1))) h2 _ h) h2 rfl (by decide) kw_7_31 kw_7_32 kw_7_33 kw_1_12 kw_7_34 rfl rfl pd_X11_isOpen ⟨(Nat.le_of_ble_eq_true rfl), (Nat.le_of_ble_eq_true rfl)⟩ dL_law_598 rfl (Nat.le_of_ble_eq_true rfl) ⟨by show _ ≤ 601024; omega, by show _ ≤ 7293034; omega⟩ rfl (fun r598 u598 h => ?_)
  refine a_istore (lv' := [(0, .ref b), (1, .ref (L o1)), (2, .ref (L o2)), (3, .ref (L o3)), (4, .int x4), (5, .int r586), (6, .int r598)]) C dL_law_601 (by decide) [1, 2, 3, 4, 5, 6, 0] rfl rfl ?_
  refine a_aload_n C dL_law_603 rfl 2 rfl rfl ?_
  refine a_callVI C (c_X11_thrown l G cy L E hE u598 o2 h2 _ h) h2 rfl (by decide) kw_6_86 kw_6_87 kw_6_88 kw_1_12 kw_6_89 rfl rfl pd_X11_thrown ⟨(Nat.le_of_ble_eq_true rfl), (Nat.le_of_ble_eq_true rfl)⟩ dL_law_604 rfl (Nat.le_of_ble_eq_true rfl) ⟨by show _ ≤ 601024; omega, by show _ ≤ 7293034; omega⟩ rfl (fun r604 u604 h => ?_)
  refine a_iload C dL_law_607 5 rfl rfl ?_
  refine a_icmp_eq (tgt := 614) C dL_law_609 (by decide) rfl (fun hc => ?_) (fun hc => ?_)
  · replace h := h.1 hc
    refine a_iload C dL_law_614 5 rfl rfl ?_
    refine a_if_ne (tgt := 638) C dL_law_616 (by decide) rfl (fun hc => ?_) (fun hc => ?_)
    · replace h := h.2 hc
      refine a_goto (tgt := 1943) C dL_law_638 (by decide) ?_
      refine a_sub (lv' := [(0, .ref b), (1, .ref (L o1)), (2, .ref (L o2)), (3, .ref (L o3)), (4, .int x4)]) [0, 1, 2, 3, 4] rfl ?_
      refine a_wid (k := 601024 - 4 * n) (n := 7293034 - 24 * n) (by omega) (by omega) ?_
      exact hk u604 h
    · replace h := h.1 hc
      refine a_aload_n C dL_law_619 rfl 3 rfl rfl ?_
      refine a_iconst (v := 0) C dL_law_620 (by decide) rfl ?_
      obtain ⟨q621, h⟩ := h
      refine a_lald C dL_law_621 h3 n3 q621 rfl ?_
      refine a_iload C dL_law_622 6 rfl rfl ?_
      refine a_if_eq (tgt := 631) C dL_law_624 (by decide) rfl (fun hc => ?_) (fun hc => ?_)
      · replace h := h.1 hc
        refine a_lconst (v := 0) C dL_law_631 (by decide) rfl ?_
        refine a_lcmp C dL_law_632 rfl ?_
        refine a_if_eq (tgt := 638) C dL_law_633 (by decide) rfl (fun hc => ?_) (fun hc => ?_)
        · replace h := h.1 hc
          refine a_goto (tgt := 1943) C dL_law_638 (by decide) ?_
          refine a_sub (lv' := [(0, .ref b), (1, .ref (L o1)), (2, .ref (L o2)), (3, .ref (L o3)), (4, .int x4)]) [0, 1, 2, 3, 4] rfl ?_
          refine a_wid (k := 601024 - 4 * n) (n := 7293034 - 24 * n) (by omega) (by omega) ?_
          exact hk u604 h
        · replace h := h.2 hc
          exact h.elim
      · replace h := h.2 hc
        refine a_lconst (v := 1) C dL_law_627 (by decide) rfl ?_
        refine a_goto (tgt := 632) C dL_law_628 (by decide) ?_
        refine a_lcmp C dL_law_632 rfl ?_
        refine a_if_eq (tgt := 638) C dL_law_633 (by decide) rfl (fun hc => ?_) (fun hc => ?_)
        · replace h := h.1 hc
          refine a_goto (tgt := 1943) C dL_law_638 (by decide) ?_
          refine a_sub (lv' := [(0, .ref b), (1, .ref (L o1)), (2, .ref (L o2)), (3, .ref (L o3)), (4, .int x4)]) [0, 1, 2, 3, 4] rfl ?_
          refine a_wid (k := 601024 - 4 * n) (n := 7293034 - 24 * n) (by omega) (by omega) ?_
          exact hk u604 h
        · replace h := h.2 hc
          exact h.elim
  · replace h := h.2 hc
    exact h.elim
def wp_case_11 (E : ms_En) (Ln : Nat) (xs : Nat → Int32) (o1 o2 o3 : Nat) (x4 : Int32) (k : ms_St → Prop) (u : ms_St) : Prop := vp_in (x4 + 1) Ln ∧ (wp_L_hasDog E u o1 (xs (Int32.toNatClampNeg (x4 + 1))) o3 (fun r649 u649 => vp_in (x4 + 1) Ln ∧ (wp_X11_hasDog E u649 o2 (xs (Int32.toNatClampNeg (x4 + 1))) (fun r661 u661 => wp_X11_thrown E u661 o2 (fun r667 u667 => (r667 = r649 → (r649 = 0 → vp_in 0 1 ∧ ((r661 = 0 → ((lg_cmp (ms_J u667 o3 (Int32.toNatClampNeg 0)) 0) = 0 → k u667) ∧ (¬ (lg_cmp (ms_J u667 o3 (Int32.toNatClampNeg 0)) 0) = 0 → False)) ∧ (¬ r661 = 0 → ((lg_cmp (ms_J u667 o3 (Int32.toNatClampNeg 0)) 1) = 0 → k u667) ∧ (¬ (lg_cmp (ms_J u667 o3 (Int32.toNatClampNeg 0)) 1) = 0 → False)))) ∧ (¬ r649 = 0 → k u667)) ∧ (¬ r667 = r649 → False))))))
set_option maxHeartbeats 4000000 in
set_option maxRecDepth 100000 in
theorem c_case_11 {p : Program} {l : Launch} {e : Env} {s : State} {m : MethodId} {args : Array Value} {below : List Frame} {meth : Method} {c : Code} {G : va_G} {cy : Nat → ClassId} {A : Nat → Prop} {L : Nat → Nat} {E : ms_En} {Q : State → Prop} (C : ms_Cx p m c cL_law 7 s args (Cond.initialized "CensusWalkLaw") "CensusWalkLaw" G cy A) (hl9 : l.stackTraces = false) (hE : ms_WT E) {b Ln : Nat} {xs : Nat → Int32} (hX : va_X b Ln xs s s.heap) (hbl : b < s.heap.size) (hbA : ¬ A b) {o1 o2 o3 : Nat} (h1 : ms_is E o1 10) (h2 : ms_is E o2 11) (h3 : ms_is E o3 14) (n3 : ms_N E o3 = 1) {k : ms_St → Prop} {x4 : Int32} {n : Nat} (hn9 : n ≤ 1000) (hk : ∀ u : ms_St, k u → ms_At p l e room_1 s m args below meth c 7 G cy A L (601024 - 4 * n) (7293034 - 24 * n) Q E u 1943 [(0, .ref b), (1, .ref (L o1)), (2, .ref (L o2)), (3, .ref (L o3)), (4, .int x4)] []) (u : ms_St) (h : wp_case_11 E Ln xs o1 o2 o3 x4 k u) : ms_At p l e room_1 s m args below meth c 7 G cy A L (601024 - 4 * (n + 1)) (7293034 - 24 * (n + 1)) Q E u 641 [(0, .ref b), (1, .ref (L o1)), (2, .ref (L o2)), (3, .ref (L o3)), (4, .int x4)] [] := by
  unfold wp_case_11 at h
  refine a_aload_n C dL_law_641 rfl 1 rfl rfl ?_
  refine a_aload_n C dL_law_642 rfl 0 rfl rfl ?_
  refine a_iload C dL_law_643 4 rfl rfl ?_
  refine a_iconst (v := 1) C dL_law_645 (by decide) rfl ?_
  refine a_iadd C dL_law_646 rfl ?_
  obtain ⟨q647, h⟩ := h
  refine a_sld C hX hbl hbA dL_law_647 q647 rfl ?_
  refine a_aload_n C dL_law_648 rfl 3 rfl rfl ?_
  refine a_callZI C (c_L_hasDog l G cy L E hE hl9 u o1 (xs (Int32.toNatClampNeg (x4 + 1))) o3 h1 h3 _ h) kw_4_203 kw_4_204 kw_1_0 kw_4_205 rfl rfl pd_L_hasDog ⟨(Nat.le_of_ble_eq_true rfl), (Nat.le_of_ble_eq_true rfl)⟩ dL_law_649 rfl (Nat.le_of_ble_eq_true rfl) ⟨by show _ ≤ 601024; omega, by show _ ≤ 7293034; omega⟩ rfl (fun r649 u649 h => ?_)
  refine a_istore (lv' := [(0, .ref b), (1, .ref (L o1)), (2, .ref (L o2)), (3, .ref (L o3)), (4, .int x4), (5, .int r649)]) C dL_law_652 (by decide) [1, 2, 3, 4, 5, 0] rfl rfl ?_
  refine a_aload_n C dL_law_654 rfl 2 rfl rfl ?_
  refine a_aload_n C dL_law_655 rfl 0 rfl rfl ?_
  refine a_iload C dL_law_656 4 rfl rfl ?_
  refine a_iconst (v := 1) C dL_law_658 (by decide) rfl ?_
  refine a_iadd C dL_law_659 rfl ?_
  obtain ⟨q660, h⟩ := h
  refine a_sld C hX hbl hbA dL_law_660 q660 rfl ?_
  refine a_callVI C (c_X11_hasDog l G cy L E hE u649 o2 (xs (Int32.toNatClampNeg (x4 + 1))) h2 _ h) h2 rfl (by decide) kw_7_39 kw_7_40 kw_7_41 kw_1_12 kw_7_42 rfl rfl pd_X11_hasDog ⟨(Nat.le_of_ble_eq_true rfl), (Nat.le_of_ble_eq_true rfl)⟩ dL_law_661 rfl (Nat.le_of_ble_eq_true rfl) ⟨by show _ ≤ 601024; omega, by show _ ≤ 7293034; omega⟩ rfl (fun r661 u661 h => ?_)
  refine a_istore (lv' := [(0, .ref b), (1, .ref (L o1)), (2, .ref (L o2)), (3, .ref (L o3)), (4, .int x4), (5, .int r649), (6, .int r661)]) C dL_law_664 (by decide) [1, 2, 3, 4, 5, 6, 0] rfl rfl ?_
  refine a_aload_n C dL_law_666 rfl 2 rfl rfl ?_
  refine a_callVI C (c_X11_thrown l G cy L E hE u661 o2 h2 _ h) h2 rfl (by decide) kw_6_86 kw_6_87 kw_6_88 kw_1_12 kw_6_89 rfl rfl pd_X11_thrown ⟨(Nat.le_of_ble_eq_true rfl), (Nat.le_of_ble_eq_true rfl)⟩ dL_law_667 rfl (Nat.le_of_ble_eq_true rfl) ⟨by show _ ≤ 601024; omega, by show _ ≤ 7293034; omega⟩ rfl (fun r667 u667 h => ?_)
  refine a_iload C dL_law_670 5 rfl rfl ?_
  refine a_icmp_eq (tgt := 677) C dL_law_672 (by decide) rfl (fun hc => ?_) (fun hc => ?_)
  · replace h := h.1 hc
    refine a_iload C dL_law_677 5 rfl rfl ?_
    refine a_if_ne (tgt := 701) C dL_law_679 (by decide) rfl (fun hc => ?_) (fun hc => ?_)
    · replace h := h.2 hc
      refine a_goto (tgt := 1943) C dL_law_701 (by decide) ?_
      refine a_sub (lv' := [(0, .ref b), (1, .ref (L o1)), (2, .ref (L o2)), (3, .ref (L o3)), (4, .int x4)]) [0, 1, 2, 3, 4] rfl ?_
      refine a_wid (k := 601024 - 4 * n) (n := 7293034 - 24 * n) (by omega) (by omega) ?_
      exact hk u667 h
    · replace h := h.1 hc
      refine a_aload_n C dL_law_682 rfl 3 rfl rfl ?_
      refine a_iconst (v := 0) C dL_law_683 (by decide) rfl ?_
      obtain ⟨q684, h⟩ := h
      refine a_lald C dL_law_684 h3 n3 q684 rfl ?_
      refine a_iload C dL_law_685 6 rfl rfl ?_
      refine a_if_eq (tgt := 694) C dL_law_687 (by decide) rfl (fun hc => ?_) (fun hc => ?_)
      · replace h := h.1 hc
        refine a_lconst (v := 0) C dL_law_694 (by decide) rfl ?_
        refine a_lcmp C dL_law_695 rfl ?_
        refine a_if_eq (tgt := 701) C dL_law_696 (by decide) rfl (fun hc => ?_) (fun hc => ?_)
        · replace h := h.1 hc
          refine a_goto (tgt := 1943) C dL_law_701 (by decide) ?_
          refine a_sub (lv' := [(0, .ref b), (1, .ref (L o1)), (2, .ref (L o2)), (3, .ref (L o3)), (4, .int x4)]) [0, 1, 2, 3, 4] rfl ?_
          refine a_wid (k := 601024 - 4 * n) (n := 7293034 - 24 * n) (by omega) (by omega) ?_
          exact hk u667 h
        · replace h := h.2 hc
          exact h.elim
      · replace h := h.2 hc
        refine a_lconst (v := 1) C dL_law_690 (by decide) rfl ?_
        refine a_goto (tgt := 695) C dL_law_691 (by decide) ?_
        refine a_lcmp C dL_law_695 rfl ?_
        refine a_if_eq (tgt := 701) C dL_law_696 (by decide) rfl (fun hc => ?_) (fun hc => ?_)
        · replace h := h.1 hc
          refine a_goto (tgt := 1943) C dL_law_701 (by decide) ?_
          refine a_sub (lv' := [(0, .ref b), (1, .ref (L o1)), (2, .ref (L o2)), (3, .ref (L o3)), (4, .int x4)]) [0, 1, 2, 3, 4] rfl ?_
          refine a_wid (k := 601024 - 4 * n) (n := 7293034 - 24 * n) (by omega) (by omega) ?_
          exact hk u667 h
        · replace h := h.2 hc
          exact h.elim
  · replace h := h.2 hc
    exact h.elim
def wp_case_12 (E : ms_En) (Ln : Nat) (xs : Nat → Int32) (o1 o2 o3 : Nat) (x4 : Int32) (k : ms_St → Prop) (u : ms_St) : Prop := vp_in (x4 + 1) Ln ∧ (vp_in (x4 + 2) Ln ∧ (wp_L_isHome E u o1 (xs (Int32.toNatClampNeg (x4 + 1))) (xs (Int32.toNatClampNeg (x4 + 2))) o3 (fun r718 u718 => vp_in (x4 + 1) Ln ∧ (vp_in (x4 + 2) Ln ∧ (wp_X11_isHome E u718 o2 (xs (Int32.toNatClampNeg (x4 + 1))) (xs (Int32.toNatClampNeg (x4 + 2))) (fun r736 u736 => wp_X11_thrown E u736 o2 (fun r742 u742 => (r742 = r718 → (r718 = 0 → vp_in 0 1 ∧ ((r736 = 0 → ((lg_cmp (ms_J u742 o3 (Int32.toNatClampNeg 0)) 0) = 0 → k u742) ∧ (¬ (lg_cmp (ms_J u742 o3 (Int32.toNatClampNeg 0)) 0) = 0 → False)) ∧ (¬ r736 = 0 → ((lg_cmp (ms_J u742 o3 (Int32.toNatClampNeg 0)) 1) = 0 → k u742) ∧ (¬ (lg_cmp (ms_J u742 o3 (Int32.toNatClampNeg 0)) 1) = 0 → False)))) ∧ (¬ r718 = 0 → k u742)) ∧ (¬ r742 = r718 → False))))))))
set_option maxHeartbeats 4000000 in
set_option maxRecDepth 100000 in
theorem c_case_12 {p : Program} {l : Launch} {e : Env} {s : State} {m : MethodId} {args : Array Value} {below : List Frame} {meth : Method} {c : Code} {G : va_G} {cy : Nat → ClassId} {A : Nat → Prop} {L : Nat → Nat} {E : ms_En} {Q : State → Prop} (C : ms_Cx p m c cL_law 7 s args (Cond.initialized "CensusWalkLaw") "CensusWalkLaw" G cy A) (hl9 : l.stackTraces = false) (hE : ms_WT E) {b Ln : Nat} {xs : Nat → Int32} (hX : va_X b Ln xs s s.heap) (hbl : b < s.heap.size) (hbA : ¬ A b) {o1 o2 o3 : Nat} (h1 : ms_is E o1 10) (h2 : ms_is E o2 11) (h3 : ms_is E o3 14) (n3 : ms_N E o3 = 1) {k : ms_St → Prop} {x4 : Int32} {n : Nat} (hn9 : n ≤ 1000) (hk : ∀ u : ms_St, k u → ms_At p l e room_1 s m args below meth c 7 G cy A L (601024 - 4 * n) (7293034 - 24 * n) Q E u 1943 [(0, .ref b), (1, .ref (L o1)), (2, .ref (L o2)), (3, .ref (L o3)), (4, .int x4)] []) (u : ms_St) (h : wp_case_12 E Ln xs o1 o2 o3 x4 k u) : ms_At p l e room_1 s m args below meth c 7 G cy A L (601024 - 4 * (n + 1)) (7293034 - 24 * (n + 1)) Q E u 704 [(0, .ref b), (1, .ref (L o1)), (2, .ref (L o2)), (3, .ref (L o3)), (4, .int x4)] [] := by
  unfold wp_case_12 at h
  refine a_aload_n C dL_law_704 rfl 1 rfl rfl ?_
  refine a_aload_n C dL_law_705 rfl 0 rfl rfl ?_
  refine a_iload C dL_law_706 4 rfl rfl ?_
  refine a_iconst (v := 1) C dL_law_708 (by decide) rfl ?_
  refine a_iadd C dL_law_709 rfl ?_
  obtain ⟨q710, h⟩ := h
  refine a_sld C hX hbl hbA dL_law_710 q710 rfl ?_
  refine a_aload_n C dL_law_711 rfl 0 rfl rfl ?_
  refine a_iload C dL_law_712 4 rfl rfl ?_
  refine a_iconst (v := 2) C dL_law_714 (by decide) rfl ?_
  refine a_iadd C dL_law_715 rfl ?_
  obtain ⟨q716, h⟩ := h
  refine a_sld C hX hbl hbA dL_law_716 q716 rfl ?_
  refine a_aload_n C dL_law_717 rfl 3 rfl rfl ?_
  refine a_callZI C (c_L_isHome l G cy L E hE hl9 u o1 (xs (Int32.toNatClampNeg (x4 + 1))) (xs (Int32.toNatClampNeg (x4 + 2))) o3 h1 h3 _ h) kw_4_210 kw_4_211 kw_1_0 kw_4_212 rfl rfl pd_L_isHome ⟨(Nat.le_of_ble_eq_true rfl), (Nat.le_of_ble_eq_true rfl)⟩ dL_law_718 rfl (Nat.le_of_ble_eq_true rfl) ⟨by show _ ≤ 601024; omega, by show _ ≤ 7293034; omega⟩ rfl (fun r718 u718 h => ?_)
  refine a_istore (lv' := [(0, .ref b), (1, .ref (L o1)), (2, .ref (L o2)), (3, .ref (L o3)), (4, .int x4), (5, .int r718)]) C dL_law_721 (by decide) [1, 2, 3, 4, 5, 0] rfl rfl ?_
  refine a_aload_n C dL_law_723 rfl 2 rfl rfl ?_
  refine a_aload_n C dL_law_724 rfl 0 rfl rfl ?_
  refine a_iload C dL_law_725 4 rfl rfl ?_
  refine a_iconst (v := 1) C dL_law_727 (by decide) rfl ?_
  refine a_iadd C dL_law_728 rfl ?_
  obtain ⟨q729, h⟩ := h
  refine a_sld C hX hbl hbA dL_law_729 q729 rfl ?_
  refine a_aload_n C dL_law_730 rfl 0 rfl rfl ?_
  refine a_iload C dL_law_731 4 rfl rfl ?_
  refine a_iconst (v := 2) C dL_law_733 (by decide) rfl ?_
  refine a_iadd C dL_law_734 rfl ?_
  obtain ⟨q735, h⟩ := h
  refine a_sld C hX hbl hbA dL_law_735 q735 rfl ?_
  refine a_callVI C (c_X11_isHome l G cy L E hE u718 o2 (xs (Int32.toNatClampNeg (x4 + 1))) (xs (Int32.toNatClampNeg (x4 + 2))) h2 _ h) h2 rfl (by decide) kw_7_43 kw_7_44 kw_7_45 kw_1_12 kw_7_46 rfl rfl pd_X11_isHome ⟨(Nat.le_of_ble_eq_true rfl), (Nat.le_of_ble_eq_true rfl)⟩ dL_law_736 rfl (Nat.le_of_ble_eq_true rfl) ⟨by show _ ≤ 601024; omega, by show _ ≤ 7293034; omega⟩ rfl (fun r736 u736 h => ?_)
  refine a_istore (lv' := [(0, .ref b), (1, .ref (L o1)), (2, .ref (L o2)), (3, .ref (L o3)), (4, .int x4), (5, .int r718), (6, .int r736)]) C dL_law_739 (by decide) [1, 2, 3, 4, 5, 6, 0] rfl rfl ?_
  refine a_aload_n C dL_law_741 rfl 2 rfl rfl ?_
  refine a_callVI C (c_X11_thrown l G cy L E hE u736 o2 h2 _ h) h2 rfl (by decide) kw_6_86 kw_6_87 kw_6_88 kw_1_12 kw_6_89 rfl rfl pd_X11_thrown ⟨(Nat.le_of_ble_eq_true rfl), (Nat.le_of_ble_eq_true rfl)⟩ dL_law_742 rfl (Nat.le_of_ble_eq_true rfl) ⟨by show _ ≤ 601024; omega, by show _ ≤ 7293034; omega⟩ rfl (fun r742 u742 h => ?_)
  refine a_iload C dL_law_745 5 rfl rfl ?_
  refine a_icmp_eq (tgt := 752) C dL_law_747 (by decide) rfl (fun hc => ?_) (fun hc => ?_)
  · replace h := h.1 hc
    refine a_iload C dL_law_752 5 rfl rfl ?_
    refine a_if_ne (tgt := 776) C dL_law_754 (by decide) rfl (fun hc => ?_) (fun hc => ?_)
    · replace h := h.2 hc
      refine a_goto (tgt := 1943) C dL_law_776 (by decide) ?_
      refine a_sub (lv' := [(0, .ref b), (1, .ref (L o1)), (2, .ref (L o2)), (3, .ref (L o3)), (4, .int x4)]) [0, 1, 2, 3, 4] rfl ?_
      refine a_wid (k := 601024 - 4 * n) (n := 7293034 - 24 * n) (by omega) (by omega) ?_
      exact hk u742 h
    · replace h := h.1 hc
      refine a_aload_n C dL_law_757 rfl 3 rfl rfl ?_
      refine a_iconst (v := 0) C dL_law_758 (by decide) rfl ?_
      obtain ⟨q759, h⟩ := h
      refine a_lald C dL_law_759 h3 n3 q759 rfl ?_
      refine a_iload C dL_law_760 6 rfl rfl ?_
      refine a_if_eq (tgt := 769) C dL_law_762 (by decide) rfl (fun hc => ?_) (fun hc => ?_)
      · replace h := h.1 hc
        refine a_lconst (v := 0) C dL_law_769 (by decide) rfl ?_
        refine a_lcmp C dL_law_770 rfl ?_
        refine a_if_eq (tgt := 776) C dL_law_771 (by decide) rfl (fun hc => ?_) (fun hc => ?_)
        · replace h := h.1 hc
          refine a_goto (tgt := 1943) C dL_law_776 (by decide) ?_
          refine a_sub (lv' := [(0, .ref b), (1, .ref (L o1)), (2, .ref (L o2)), (3, .ref (L o3)), (4, .int x4)]) [0, 1, 2, 3, 4] rfl ?_
          refine a_wid (k := 601024 - 4 * n) (n := 7293034 - 24 * n) (by omega) (by omega) ?_
          exact hk u742 h
        · replace h := h.2 hc
          exact h.elim
      · replace h := h.2 hc
        refine a_lconst (v := 1) C dL_law_765 (by decide) rfl ?_
        refine a_goto (tgt := 770) C dL_law_766 (by decide) ?_
        refine a_lcmp C dL_law_770 rfl ?_
        refine a_if_eq (tgt := 776) C dL_law_771 (by decide) rfl (fun hc => ?_) (fun hc => ?_)
        · replace h := h.1 hc
          refine a_goto (tgt := 1943) C dL_law_776 (by decide) ?_
          refine a_sub (lv' := [(0, .ref b), (1, .ref (L o1)), (2, .ref (L o2)), (3, .ref (L o3)), (4, .int x4)]) [0, 1, 2, 3, 4] rfl ?_
          refine a_wid (k := 601024 - 4 * n) (n := 7293034 - 24 * n) (by omega) (by omega) ?_
          exact hk u742 h
        · replace h := h.2 hc
          exact h.elim
  · replace h := h.2 hc
    exact h.elim
def wp_case_13 (E : ms_En) (Ln : Nat) (xs : Nat → Int32) (o1 o2 o3 : Nat) (x4 : Int32) (k : ms_St → Prop) (u : ms_St) : Prop := vp_in (x4 + 1) Ln ∧ (vp_in (x4 + 2) Ln ∧ (wp_L_duration E u o1 (xs (Int32.toNatClampNeg (x4 + 1))) (xs (Int32.toNatClampNeg (x4 + 2))) o3 (fun r793 u793 => vp_in (x4 + 1) Ln ∧ (vp_in (x4 + 2) Ln ∧ (wp_X11_duration E u793 o2 (xs (Int32.toNatClampNeg (x4 + 1))) (xs (Int32.toNatClampNeg (x4 + 2))) (fun r811 u811 => wp_X11_thrown E u811 o2 (fun r817 u817 => (r817 = r793 → (r793 = 0 → vp_in 0 1 ∧ (((lg_cmp (ms_J u817 o3 (Int32.toNatClampNeg 0)) (Int32.toInt64 r811)) = 0 → k u817) ∧ (¬ (lg_cmp (ms_J u817 o3 (Int32.toNatClampNeg 0)) (Int32.toInt64 r811)) = 0 → False))) ∧ (¬ r793 = 0 → k u817)) ∧ (¬ r817 = r793 → False))))))))
set_option maxHeartbeats 4000000 in
set_option maxRecDepth 100000 in
theorem c_case_13 {p : Program} {l : Launch} {e : Env} {s : State} {m : MethodId} {args : Array Value} {below : List Frame} {meth : Method} {c : Code} {G : va_G} {cy : Nat → ClassId} {A : Nat → Prop} {L : Nat → Nat} {E : ms_En} {Q : State → Prop} (C : ms_Cx p m c cL_law 7 s args (Cond.initialized "CensusWalkLaw") "CensusWalkLaw" G cy A) (hl9 : l.stackTraces = false) (hE : ms_WT E) {b Ln : Nat} {xs : Nat → Int32} (hX : va_X b Ln xs s s.heap) (hbl : b < s.heap.size) (hbA : ¬ A b) {o1 o2 o3 : Nat} (h1 : ms_is E o1 10) (h2 : ms_is E o2 11) (h3 : ms_is E o3 14) (n3 : ms_N E o3 = 1) {k : ms_St → Prop} {x4 : Int32} {n : Nat} (hn9 : n ≤ 1000) (hk : ∀ u : ms_St, k u → ms_At p l e room_1 s m args below meth c 7 G cy A L (601024 - 4 * n) (7293034 - 24 * n) Q E u 1943 [(0, .ref b), (1, .ref (L o1)), (2, .ref (L o2)), (3, .ref (L o3)), (4, .int x4)] []) (u : ms_St) (h : wp_case_13 E Ln xs o1 o2 o3 x4 k u) : ms_At p l e room_1 s m args below meth c 7 G cy A L (601024 - 4 * (n + 1)) (7293034 - 24 * (n + 1)) Q E u 779 [(0, .ref b), (1, .ref (L o1)), (2, .ref (L o2)), (3, .ref (L o3)), (4, .int x4)] [] := by
  unfold wp_case_13 at h
  refine a_aload_n C dL_law_779 rfl 1 rfl rfl ?_
  refine a_aload_n C dL_law_780 rfl 0 rfl rfl ?_
  refine a_iload C dL_law_781 4 rfl rfl ?_
  refine a_iconst (v := 1) C dL_law_783 (by decide) rfl ?_
  refine a_iadd C dL_law_784 rfl ?_
  obtain ⟨q785, h⟩ := h
  refine a_sld C hX hbl hbA dL_law_785 q785 rfl ?_
  refine a_aload_n C dL_law_786 rfl 0 rfl rfl ?_
  refine a_iload C dL_law_787 4 rfl rfl ?_
  refine a_iconst (v := 2) C dL_law_789 (by decide) rfl ?_
  refine a_iadd C dL_law_790 rfl ?_
  obtain ⟨q791, h⟩ := h
  refine a_sld C hX hbl hbA dL_law_791 q791 rfl ?_
  refine a_aload_n C dL_law_792 rfl 3 rfl rfl ?_
  refine a_callZI C (c_L_duration l G cy L E hE hl9 u o1 (xs (Int32.toNatClampNeg (x4 + 1))) (xs (Int32.toNatClampNeg (x4 + 2))) o3 h1 h3 _ h) kw_4_219 kw_4_220 kw_1_0 kw_4_221 rfl rfl pd_L_duration ⟨(Nat.le_of_ble_eq_true rfl), (Nat.le_of_ble_eq_true rfl)⟩ dL_law_793 rfl (Nat.le_of_ble_eq_true rfl) ⟨by show _ ≤ 601024; omega, by show _ ≤ 7293034; omega⟩ rfl (fun r793 u793 h => ?_)
  refine a_istore (lv' := [(0, .ref b), (1, .ref (L o1)), (2, .ref (L o2)), (3, .ref (L o3)), (4, .int x4), (5, .int r793)]) C dL_law_796 (by decide) [1, 2, 3, 4, 5, 0] rfl rfl ?_
  refine a_aload_n C dL_law_798 rfl 2 rfl rfl ?_
  refine a_aload_n C dL_law_799 rfl 0 rfl rfl ?_
  refine a_iload C dL_law_800 4 rfl rfl ?_
  refine a_iconst (v := 1) C dL_law_802 (by decide) rfl ?_
  refine a_iadd C dL_law_803 rfl ?_
  obtain ⟨q804, h⟩ := h
  refine a_sld C hX hbl hbA dL_law_804 q804 rfl ?_
  refine a_aload_n C dL_law_805 rfl 0 rfl rfl ?_
  refine a_iload C dL_law_806 4 rfl rfl ?_
  refine a_iconst (v := 2) C dL_law_808 (by decide) rfl ?_
  refine a_iadd C dL_law_809 rfl ?_
  obtain ⟨q810, h⟩ := h
  refine a_sld C hX hbl hbA dL_law_810 q810 rfl ?_
  refine a_callVI C (c_X11_duration l G cy L E hE u793 o2 (xs (Int32.toNatClampNeg (x4 + 1))) (xs (Int32.toNatClampNeg (x4 + 2))) h2 _ h) h2 rfl (by decide) kw_7_51 kw_7_52 kw_7_53 kw_1_12 kw_7_54 rfl rfl pd_X11_duration ⟨(Nat.le_of_ble_eq_true rfl), (Nat.le_of_ble_eq_true rfl)⟩ dL_law_811 rfl (Nat.le_of_ble_eq_true rfl) ⟨by show _ ≤ 601024; omega, by show _ ≤ 7293034; omega⟩ rfl (fun r811 u811 h => ?_)
  refine a_istore (lv' := [(0, .ref b), (1, .ref (L o1)), (2, .ref (L o2)), (3, .ref (L o3)), (4, .int x4), (5, .int r793), (6, .int r811)]) C dL_law_814 (by decide) [1, 2, 3, 4, 5, 6, 0] rfl rfl ?_
  refine a_aload_n C dL_law_816 rfl 2 rfl rfl ?_
  refine a_callVI C (c_X11_thrown l G cy L E hE u811 o2 h2 _ h) h2 rfl (by decide) kw_6_86 kw_6_87 kw_6_88 kw_1_12 kw_6_89 rfl rfl pd_X11_thrown ⟨(Nat.le_of_ble_eq_true rfl), (Nat.le_of_ble_eq_true rfl)⟩ dL_law_817 rfl (Nat.le_of_ble_eq_true rfl) ⟨by show _ ≤ 601024; omega, by show _ ≤ 7293034; omega⟩ rfl (fun r817 u817 h => ?_)
  refine a_iload C dL_law_820 5 rfl rfl ?_
  refine a_icmp_eq (tgt := 827) C dL_law_822 (by decide) rfl (fun hc => ?_) (fun hc => ?_)
  · replace h := h.1 hc
    refine a_iload C dL_law_827 5 rfl rfl ?_
    refine a_if_ne (tgt := 844) C dL_law_829 (by decide) rfl (fun hc => ?_) (fun hc => ?_)
    · replace h := h.2 hc
      refine a_goto (tgt := 1943) C dL_law_844 (by decide) ?_
      refine a_sub (lv' := [(0, .ref b), (1, .ref (L o1)), (2, .ref (L o2)), (3, .ref (L o3)), (4, .int x4)]) [0, 1, 2, 3, 4] rfl ?_
      refine a_wid (k := 601024 - 4 * n) (n := 7293034 - 24 * n) (by omega) (by omega) ?_
      exact hk u817 h
    · replace h := h.1 hc
      refine a_aload_n C dL_law_832 rfl 3 rfl rfl ?_
      refine a_iconst (v := 0) C dL_law_833 (by decide) rfl ?_
      obtain ⟨q834, h⟩ := h
      refine a_lald C dL_law_834 h3 n3 q834 rfl ?_
      refine a_iload C dL_law_835 6 rfl rfl ?_
      refine a_i2l C dL_law_837 rfl ?_
      refine a_lcmp C dL_law_838 rfl ?_
      refine a_if_eq (tgt := 844) C dL_law_839 (by decide) rfl (fun hc => ?_) (fun hc => ?_)
      · replace h := h.1 hc
        refine a_goto (tgt := 1943) C dL_law_844 (by decide) ?_
        refine a_sub (lv' := [(0, .ref b), (1, .ref (L o1)), (2, .ref (L o2)), (3, .ref (L o3)), (4, .int x4)]) [0, 1, 2, 3, 4] rfl ?_
        refine a_wid (k := 601024 - 4 * n) (n := 7293034 - 24 * n) (by omega) (by omega) ?_
        exact hk u817 h
      · replace h := h.2 hc
        exact h.elim
  · replace h := h.2 hc
    exact h.elim
def wp_case_14 (E : ms_En) (Ln : Nat) (xs : Nat → Int32) (o1 o2 o3 : Nat) (x4 : Int32) (k : ms_St → Prop) (u : ms_St) : Prop := vp_in (x4 + 1) Ln ∧ (wp_L_planLength E u o1 (xs (Int32.toNatClampNeg (x4 + 1))) o3 (fun r855 u855 => vp_in (x4 + 1) Ln ∧ (wp_X11_planLength E u855 o2 (xs (Int32.toNatClampNeg (x4 + 1))) (fun r867 u867 => wp_X11_thrown E u867 o2 (fun r873 u873 => (r873 = r855 → (r855 = 0 → vp_in 0 1 ∧ (((lg_cmp (ms_J u873 o3 (Int32.toNatClampNeg 0)) (Int32.toInt64 r867)) = 0 → k u873) ∧ (¬ (lg_cmp (ms_J u873 o3 (Int32.toNatClampNeg 0)) (Int32.toInt64 r867)) = 0 → False))) ∧ (¬ r855 = 0 → k u873)) ∧ (¬ r873 = r855 → False))))))
set_option maxHeartbeats 4000000 in
set_option maxRecDepth 100000 in
theorem c_case_14 {p : Program} {l : Launch} {e : Env} {s : State} {m : MethodId} {args : Array Value} {below : List Frame} {meth : Method} {c : Code} {G : va_G} {cy : Nat → ClassId} {A : Nat → Prop} {L : Nat → Nat} {E : ms_En} {Q : State → Prop} (C : ms_Cx p m c cL_law 7 s args (Cond.initialized "CensusWalkLaw") "CensusWalkLaw" G cy A) (hl9 : l.stackTraces = false) (hE : ms_WT E) {b Ln : Nat} {xs : Nat → Int32} (hX : va_X b Ln xs s s.heap) (hbl : b < s.heap.size) (hbA : ¬ A b) {o1 o2 o3 : Nat} (h1 : ms_is E o1 10) (h2 : ms_is E o2 11) (h3 : ms_is E o3 14) (n3 : ms_N E o3 = 1) {k : ms_St → Prop} {x4 : Int32} {n : Nat} (hn9 : n ≤ 1000) (hk : ∀ u : ms_St, k u → ms_At p l e room_1 s m args below meth c 7 G cy A L (601024 - 4 * n) (7293034 - 24 * n) Q E u 1943 [(0, .ref b), (1, .ref (L o1)), (2, .ref (L o2)), (3, .ref (L o3)), (4, .int x4)] []) (u : ms_St) (h : wp_case_14 E Ln xs o1 o2 o3 x4 k u) : ms_At p l e room_1 s m args below meth c 7 G cy A L (601024 - 4 * (n + 1)) (7293034 - 24 * (n + 1)) Q E u 847 [(0, .ref b), (1, .ref (L o1)), (2, .ref (L o2)), (3, .ref (L o3)), (4, .int x4)] [] := by
  unfold wp_case_14 at h
  refine a_aload_n C dL_law_847 rfl 1 rfl rfl ?_
  refine a_aload_n C dL_law_848 rfl 0 rfl rfl ?_
  refine a_iload C dL_law_849 4 rfl rfl ?_
  refine a_iconst (v := 1) C dL_law_851 (by decide) rfl ?_
  refine a_iadd C dL_law_852 rfl ?_
  obtain ⟨q853, h⟩ := h
  refine a_sld C hX hbl hbA dL_law_853 q853 rfl ?_
  refine a_aload_n C dL_law_854 rfl 3 rfl rfl ?_
  refine a_callZI C (c_L_planLength l G cy L E hE hl9 u o1 (xs (Int32.toNatClampNeg (x4 + 1))) o3 h1 h3 _ h) kw_4_228 kw_4_229 kw_1_0 kw_4_230 rfl rfl pd_L_planLength ⟨(Nat.le_of_ble_eq_true rfl), (Nat.le_of_ble_eq_true rfl)⟩ dL_law_855 rfl (Nat.le_of_ble_eq_true rfl) ⟨by show _ ≤ 601024; omega, by show _ ≤ 7293034; omega⟩ rfl (fun r855 u855 h => ?_)
  refine a_istore (lv' := [(0, .ref b), (1, .ref (L o1)), (2, .ref (L o2)), (3, .ref (L o3)), (4, .int x4), (5, .int r855)]) C dL_law_858 (by decide) [1, 2, 3, 4, 5, 0] rfl rfl ?_
  refine a_aload_n C dL_law_860 rfl 2 rfl rfl ?_
  refine a_aload_n C dL_law_861 rfl 0 rfl rfl ?_
  refine a_iload C dL_law_862 4 rfl rfl ?_
  refine a_iconst (v := 1) C dL_law_864 (by decide) rfl ?_
  refine a_iadd C dL_law_865 rfl ?_
  obtain ⟨q866, h⟩ := h
  refine a_sld C hX hbl hbA dL_law_866 q866 rfl ?_
  refine a_callVI C (c_X11_planLength l G cy L E hE u855 o2 (xs (Int32.toNatClampNeg (x4 + 1))) h2 _ h) h2 rfl (by decide) kw_7_68 kw_7_69 kw_7_70 kw_1_12 kw_7_71 rfl rfl pd_X11_planLength ⟨(Nat.le_of_ble_eq_true rfl), (Nat.le_of_ble_eq_true rfl)⟩ dL_law_867 rfl (Nat.le_of_ble_eq_true rfl) ⟨by show _ ≤ 601024; omega, by show _ ≤ 7293034; omega⟩ rfl (fun r867 u867 h => ?_)
  refine a_istore (lv' := [(0, .ref b), (1, .ref (L o1)), (2, .ref (L o2)), (3, .ref (L o3)), (4, .int x4), (5, .int r855), (6, .int r867)]) C dL_law_870 (by decide) [1, 2, 3, 4, 5, 6, 0] rfl rfl ?_
  refine a_aload_n C dL_law_872 rfl 2 rfl rfl ?_
  refine a_callVI C (c_X11_thrown l G cy L E hE u867 o2 h2 _ h) h2 rfl (by decide) kw_6_86 kw_6_87 kw_6_88 kw_1_12 kw_6_89 rfl rfl pd_X11_thrown ⟨(Nat.le_of_ble_eq_true rfl), (Nat.le_of_ble_eq_true rfl)⟩ dL_law_873 rfl (Nat.le_of_ble_eq_true rfl) ⟨by show _ ≤ 601024; omega, by show _ ≤ 7293034; omega⟩ rfl (fun r873 u873 h => ?_)
  refine a_iload C dL_law_876 5 rfl rfl ?_
  refine a_icmp_eq (tgt := 883) C dL_law_878 (by decide) rfl (fun hc => ?_) (fun hc => ?_)
  · replace h := h.1 hc
    refine a_iload C dL_law_883 5 rfl rfl ?_
    refine a_if_ne (tgt := 900) C dL_law_885 (by decide) rfl (fun hc => ?_) (fun hc => ?_)
    · replace h := h.2 hc
      refine a_goto (tgt := 1943) C dL_law_900 (by decide) ?_
      refine a_sub (lv' := [(0, .ref b), (1, .ref (L o1)), (2, .ref (L o2)), (3, .ref (L o3)), (4, .int x4)]) [0, 1, 2, 3, 4] rfl ?_
      refine a_wid (k := 601024 - 4 * n) (n := 7293034 - 24 * n) (by omega) (by omega) ?_
      exact hk u873 h
    · replace h := h.1 hc
      refine a_aload_n C dL_law_888 rfl 3 rfl rfl ?_
      refine a_iconst (v := 0) C dL_law_889 (by decide) rfl ?_
      obtain ⟨q890, h⟩ := h
      refine a_lald C dL_law_890 h3 n3 q890 rfl ?_
      refine a_iload C dL_law_891 6 rfl rfl ?_
      refine a_i2l C dL_law_893 rfl ?_
      refine a_lcmp C dL_law_894 rfl ?_
      refine a_if_eq (tgt := 900) C dL_law_895 (by decide) rfl (fun hc => ?_) (fun hc => ?_)
      · replace h := h.1 hc
        refine a_goto (tgt := 1943) C dL_law_900 (by decide) ?_
        refine a_sub (lv' := [(0, .ref b), (1, .ref (L o1)), (2, .ref (L o2)), (3, .ref (L o3)), (4, .int x4)]) [0, 1, 2, 3, 4] rfl ?_
        refine a_wid (k := 601024 - 4 * n) (n := 7293034 - 24 * n) (by omega) (by omega) ?_
        exact hk u873 h
      · replace h := h.2 hc
        exact h.elim
  · replace h := h.2 hc
    exact h.elim
def wp_case_15 (E : ms_En) (Ln : Nat) (xs : Nat → Int32) (o1 o2 o3 : Nat) (x4 : Int32) (k : ms_St → Prop) (u : ms_St) : Prop := vp_in (x4 + 1) Ln ∧ (vp_in (x4 + 2) Ln ∧ (wp_L_planned E u o1 (xs (Int32.toNatClampNeg (x4 + 1))) (xs (Int32.toNatClampNeg (x4 + 2))) o3 (fun r917 u917 => vp_in (x4 + 1) Ln ∧ (vp_in (x4 + 2) Ln ∧ (wp_X11_planned E u917 o2 (xs (Int32.toNatClampNeg (x4 + 1))) (xs (Int32.toNatClampNeg (x4 + 2))) (fun r935 u935 => wp_X11_thrown E u935 o2 (fun r941 u941 => (r941 = r917 → (r917 = 0 → vp_in 0 1 ∧ (((lg_cmp (ms_J u941 o3 (Int32.toNatClampNeg 0)) (Int32.toInt64 r935)) = 0 → k u941) ∧ (¬ (lg_cmp (ms_J u941 o3 (Int32.toNatClampNeg 0)) (Int32.toInt64 r935)) = 0 → False))) ∧ (¬ r917 = 0 → k u941)) ∧ (¬ r941 = r917 → False))))))))
set_option maxHeartbeats 4000000 in
set_option maxRecDepth 100000 in
theorem c_case_15 {p : Program} {l : Launch} {e : Env} {s : State} {m : MethodId} {args : Array Value} {below : List Frame} {meth : Method} {c : Code} {G : va_G} {cy : Nat → ClassId} {A : Nat → Prop} {L : Nat → Nat} {E : ms_En} {Q : State → Prop} (C : ms_Cx p m c cL_law 7 s args (Cond.initialized "CensusWalkLaw") "CensusWalkLaw" G cy A) (hl9 : l.stackTraces = false) (hE : ms_WT E) {b Ln : Nat} {xs : Nat → Int32} (hX : va_X b Ln xs s s.heap) (hbl : b < s.heap.size) (hbA : ¬ A b) {o1 o2 o3 : Nat} (h1 : ms_is E o1 10) (h2 : ms_is E o2 11) (h3 : ms_is E o3 14) (n3 : ms_N E o3 = 1) {k : ms_St → Prop} {x4 : Int32} {n : Nat} (hn9 : n ≤ 1000) (hk : ∀ u : ms_St, k u → ms_At p l e room_1 s m args below meth c 7 G cy A L (601024 - 4 * n) (7293034 - 24 * n) Q E u 1943 [(0, .ref b), (1, .ref (L o1)), (2, .ref (L o2)), (3, .ref (L o3)), (4, .int x4)] []) (u : ms_St) (h : wp_case_15 E Ln xs o1 o2 o3 x4 k u) : ms_At p l e room_1 s m args below meth c 7 G cy A L (601024 - 4 * (n + 1)) (7293034 - 24 * (n + 1)) Q E u 903 [(0, .ref b), (1, .ref (L o1)), (2, .ref (L o2)), (3, .ref (L o3)), (4, .int x4)] [] := by
  unfold wp_case_15 at h
  refine a_aload_n C dL_law_903 rfl 1 rfl rfl ?_
  refine a_aload_n C dL_law_904 rfl 0 rfl rfl ?_
  refine a_iload C dL_law_905 4 rfl rfl ?_
  refine a_iconst (v := 1) C dL_law_907 (by decide) rfl ?_
  refine a_iadd C dL_law_908 rfl ?_
  obtain ⟨q909, h⟩ := h
  refine a_sld C hX hbl hbA dL_law_909 q909 rfl ?_
  refine a_aload_n C dL_law_910 rfl 0 rfl rfl ?_
  refine a_iload C dL_law_911 4 rfl rfl ?_
  refine a_iconst (v := 2) C dL_law_913 (by decide) rfl ?_
  refine a_iadd C dL_law_914 rfl ?_
  obtain ⟨q915, h⟩ := h
  refine a_sld C hX hbl hbA dL_law_915 q915 rfl ?_
  refine a_aload_n C dL_law_916 rfl 3 rfl rfl ?_
  refine a_callZI C (c_L_planned l G cy L E hE hl9 u o1 (xs (Int32.toNatClampNeg (x4 + 1))) (xs (Int32.toNatClampNeg (x4 + 2))) o3 h1 h3 _ h) kw_5_1 kw_5_2 kw_1_0 kw_5_3 rfl rfl pd_L_planned ⟨(Nat.le_of_ble_eq_true rfl), (Nat.le_of_ble_eq_true rfl)⟩ dL_law_917 rfl (Nat.le_of_ble_eq_true rfl) ⟨by show _ ≤ 601024; omega, by show _ ≤ 7293034; omega⟩ rfl (fun r917 u917 h => ?_)
  refine a_istore (lv' := [(0, .ref b), (1, .ref (L o1)), (2, .ref (L o2)), (3, .ref (L o3)), (4, .int x4), (5, .int r917)]) C dL_law_920 (by decide) [1, 2, 3, 4, 5, 0] rfl rfl ?_
  refine a_aload_n C dL_law_922 rfl 2 rfl rfl ?_
  refine a_aload_n C dL_law_923 rfl 0 rfl rfl ?_
  refine a_iload C dL_law_924 4 rfl rfl ?_
  refine a_iconst (v := 1) C dL_law_926 (by decide) rfl ?_
  refine a_iadd C dL_law_927 rfl ?_
  obtain ⟨q928, h⟩ := h
  refine a_sld C hX hbl hbA dL_law_928 q928 rfl ?_
  refine a_aload_n C dL_law_929 rfl 0 rfl rfl ?_
  refine a_iload C dL_law_930 4 rfl rfl ?_
  refine a_iconst (v := 2) C dL_law_932 (by decide) rfl ?_
  refine a_iadd C dL_law_933 rfl ?_
  obtain ⟨q934, h⟩ := h
  refine a_sld C hX hbl hbA dL_law_934 q934 rfl ?_
  refine a_callVI C (c_X11_planned l G cy L E hE u917 o2 (xs (Int32.toNatClampNeg (x4 + 1))) (xs (Int32.toNatClampNeg (x4 + 2))) h2 _ h) h2 rfl (by decide) kw_7_76 kw_7_77 kw_7_78 kw_1_12 kw_7_79 rfl rfl pd_X11_planned ⟨(Nat.le_of_ble_eq_true rfl), (Nat.le_of_ble_eq_true rfl)⟩ dL_law_935 rfl (Nat.le_of_ble_eq_true rfl) ⟨by show _ ≤ 601024; omega, by show _ ≤ 7293034; omega⟩ rfl (fun r935 u935 h => ?_)
  refine a_istore (lv' := [(0, .ref b), (1, .ref (L o1)), (2, .ref (L o2)), (3, .ref (L o3)), (4, .int x4), (5, .int r917), (6, .int r935)]) C dL_law_938 (by decide) [1, 2, 3, 4, 5, 6, 0] rfl rfl ?_
  refine a_aload_n C dL_law_940 rfl 2 rfl rfl ?_
  refine a_callVI C (c_X11_thrown l G cy L E hE u935 o2 h2 _ h) h2 rfl (by decide) kw_6_86 kw_6_87 kw_6_88 kw_1_12 kw_6_89 rfl rfl pd_X11_thrown ⟨(Nat.le_of_ble_eq_true rfl), (Nat.le_of_ble_eq_true rfl)⟩ dL_law_941 rfl (Nat.le_of_ble_eq_true rfl) ⟨by show _ ≤ 601024; omega, by show _ ≤ 7293034; omega⟩ rfl (fun r941 u941 h => ?_)
  refine a_iload C dL_law_944 5 rfl rfl ?_
  refine a_icmp_eq (tgt := 951) C dL_law_946 (by decide) rfl (fun hc => ?_) (fun hc => ?_)
  · replace h := h.1 hc
    refine a_iload C dL_law_951 5 rfl rfl ?_
    refine a_if_ne (tgt := 968) C dL_law_953 (by decide) rfl (fun hc => ?_) (fun hc => ?_)
    · replace h := h.2 hc
      refine a_goto (tgt := 1943) C dL_law_968 (by decide) ?_
      refine a_sub (lv' := [(0, .ref b), (1, .ref (L o1)), (2, .ref (L o2)), (3, .ref (L o3)), (4, .int x4)]) [0, 1, 2, 3, 4] rfl ?_
      refine a_wid (k := 601024 - 4 * n) (n := 7293034 - 24 * n) (by omega) (by omega) ?_
      exact hk u941 h
    · replace h := h.1 hc
      refine a_aload_n C dL_law_956 rfl 3 rfl rfl ?_
      refine a_iconst (v := 0) C dL_law_957 (by decide) rfl ?_
      obtain ⟨q958, h⟩ := h
      refine a_lald C dL_law_958 h3 n3 q958 rfl ?_
      refine a_iload C dL_law_959 6 rfl rfl ?_
      refine a_i2l C dL_law_961 rfl ?_
      refine a_lcmp C dL_law_962 rfl ?_
      refine a_if_eq (tgt := 968) C dL_law_963 (by decide) rfl (fun hc => ?_) (fun hc => ?_)
      · replace h := h.1 hc
        refine a_goto (tgt := 1943) C dL_law_968 (by decide) ?_
        refine a_sub (lv' := [(0, .ref b), (1, .ref (L o1)), (2, .ref (L o2)), (3, .ref (L o3)), (4, .int x4)]) [0, 1, 2, 3, 4] rfl ?_
        refine a_wid (k := 601024 - 4 * n) (n := 7293034 - 24 * n) (by omega) (by omega) ?_
        exact hk u941 h
      · replace h := h.2 hc
        exact h.elim
  · replace h := h.2 hc
    exact h.elim
def wp_case_16 (E : ms_En) (Ln : Nat) (xs : Nat → Int32) (o1 o2 o3 : Nat) (x4 : Int32) (k : ms_St → Prop) (u : ms_St) : Prop := vp_in (x4 + 1) Ln ∧ (vp_in (x4 + 2) Ln ∧ (wp_L_result E u o1 (xs (Int32.toNatClampNeg (x4 + 1))) (xs (Int32.toNatClampNeg (x4 + 2))) o3 (fun r985 u985 => vp_in (x4 + 1) Ln ∧ (vp_in (x4 + 2) Ln ∧ (wp_X11_result E u985 o2 (xs (Int32.toNatClampNeg (x4 + 1))) (xs (Int32.toNatClampNeg (x4 + 2))) (fun r1003 u1003 => wp_X11_thrown E u1003 o2 (fun r1009 u1009 => (r1009 = r985 → (r985 = 0 → vp_in 0 1 ∧ (((lg_cmp (ms_J u1009 o3 (Int32.toNatClampNeg 0)) (Int32.toInt64 r1003)) = 0 → k u1009) ∧ (¬ (lg_cmp (ms_J u1009 o3 (Int32.toNatClampNeg 0)) (Int32.toInt64 r1003)) = 0 → False))) ∧ (¬ r985 = 0 → k u1009)) ∧ (¬ r1009 = r985 → False))))))))
set_option maxHeartbeats 4000000 in
set_option maxRecDepth 100000 in
theorem c_case_16 {p : Program} {l : Launch} {e : Env} {s : State} {m : MethodId} {args : Array Value} {below : List Frame} {meth : Method} {c : Code} {G : va_G} {cy : Nat → ClassId} {A : Nat → Prop} {L : Nat → Nat} {E : ms_En} {Q : State → Prop} (C : ms_Cx p m c cL_law 7 s args (Cond.initialized "CensusWalkLaw") "CensusWalkLaw" G cy A) (hl9 : l.stackTraces = false) (hE : ms_WT E) {b Ln : Nat} {xs : Nat → Int32} (hX : va_X b Ln xs s s.heap) (hbl : b < s.heap.size) (hbA : ¬ A b) {o1 o2 o3 : Nat} (h1 : ms_is E o1 10) (h2 : ms_is E o2 11) (h3 : ms_is E o3 14) (n3 : ms_N E o3 = 1) {k : ms_St → Prop} {x4 : Int32} {n : Nat} (hn9 : n ≤ 1000) (hk : ∀ u : ms_St, k u → ms_At p l e room_1 s m args below meth c 7 G cy A L (601024 - 4 * n) (7293034 - 24 * n) Q E u 1943 [(0, .ref b), (1, .ref (L o1)), (2, .ref (L o2)), (3, .ref (L o3)), (4, .int x4)] []) (u : ms_St) (h : wp_case_16 E Ln xs o1 o2 o3 x4 k u) : ms_At p l e room_1 s m args below meth c 7 G cy A L (601024 - 4 * (n + 1)) (7293034 - 24 * (n + 1)) Q E u 971 [(0, .ref b), (1, .ref (L o1)), (2, .ref (L o2)), (3, .ref (L o3)), (4, .int x4)] [] := by
  unfold wp_case_16 at h
  refine a_aload_n C dL_law_971 rfl 1 rfl rfl ?_
  refine a_aload_n C dL_law_972 rfl 0 rfl rfl ?_
  refine a_iload C dL_law_973 4 rfl rfl ?_
  refine a_iconst (v := 1) C dL_law_975 (by decide) rfl ?_
  refine a_iadd C dL_law_976 rfl ?_
  obtain ⟨q977, h⟩ := h
  refine a_sld C hX hbl hbA dL_law_977 q977 rfl ?_
  refine a_aload_n C dL_law_978 rfl 0 rfl rfl ?_
  refine a_iload C dL_law_979 4 rfl rfl ?_
  refine a_iconst (v := 2) C dL_law_981 (by decide) rfl ?_
  refine a_iadd C dL_law_982 rfl ?_
  obtain ⟨q983, h⟩ := h
  refine a_sld C hX hbl hbA dL_law_983 q983 rfl ?_
  refine a_aload_n C dL_law_984 rfl 3 rfl rfl ?_
  refine a_callZI C (c_L_result l G cy L E hE hl9 u o1 (xs (Int32.toNatClampNeg (x4 + 1))) (xs (Int32.toNatClampNeg (x4 + 2))) o3 h1 h3 _ h) kw_5_13 kw_5_14 kw_1_0 kw_5_15 rfl rfl pd_L_result ⟨(Nat.le_of_ble_eq_true rfl), (Nat.le_of_ble_eq_true rfl)⟩ dL_law_985 rfl (Nat.le_of_ble_eq_true rfl) ⟨by show _ ≤ 601024; omega, by show _ ≤ 7293034; omega⟩ rfl (fun r985 u985 h => ?_)
  refine a_istore (lv' := [(0, .ref b), (1, .ref (L o1)), (2, .ref (L o2)), (3, .ref (L o3)), (4, .int x4), (5, .int r985)]) C dL_law_988 (by decide) [1, 2, 3, 4, 5, 0] rfl rfl ?_
  refine a_aload_n C dL_law_990 rfl 2 rfl rfl ?_
  refine a_aload_n C dL_law_991 rfl 0 rfl rfl ?_
  refine a_iload C dL_law_992 4 rfl rfl ?_
  refine a_iconst (v := 1) C dL_law_994 (by decide) rfl ?_
  refine a_iadd C dL_law_995 rfl ?_
  obtain ⟨q996, h⟩ := h
  refine a_sld C hX hbl hbA dL_law_996 q996 rfl ?_
  refine a_aload_n C dL_law_997 rfl 0 rfl rfl ?_
  refine a_iload C dL_law_998 4 rfl rfl ?_
  refine a_iconst (v := 2) C dL_law_1000 (by decide) rfl ?_
  refine a_iadd C dL_law_1001 rfl ?_
  obtain ⟨q1002, h⟩ := h
  refine a_sld C hX hbl hbA dL_law_1002 q1002 rfl ?_
  refine a_callVI C (c_X11_result l G cy L E hE u985 o2 (xs (Int32.toNatClampNeg (x4 + 1))) (xs (Int32.toNatClampNeg (x4 + 2))) h2 _ h) h2 rfl (by decide) kw_7_84 kw_7_85 kw_7_86 kw_1_12 kw_7_87 rfl rfl pd_X11_result ⟨(Nat.le_of_ble_eq_true rfl), (Nat.le_of_ble_eq_true rfl)⟩ dL_law_1003 rfl (Nat.le_of_ble_eq_true rfl) ⟨by show _ ≤ 601024; omega, by show _ ≤ 7293034; omega⟩ rfl (fun r1003 u1003 h => ?_)
  refine a_istore (lv' := [(0, .ref b), (1, .ref (L o1)), (2, .ref (L o2)), (3, .ref (L o3)), (4, .int x4), (5, .int r985), (6, .int r1003)]) C dL_law_1006 (by decide) [1, 2, 3, 4, 5, 6, 0] rfl rfl ?_
  refine a_aload_n C dL_law_1008 rfl 2 rfl rfl ?_
  refine a_callVI C (c_X11_thrown l G cy L E hE u1003 o2 h2 _ h) h2 rfl (by decide) kw_6_86 kw_6_87 kw_6_88 kw_1_12 kw_6_89 rfl rfl pd_X11_thrown ⟨(Nat.le_of_ble_eq_true rfl), (Nat.le_of_ble_eq_true rfl)⟩ dL_law_1009 rfl (Nat.le_of_ble_eq_true rfl) ⟨by show _ ≤ 601024; omega, by show _ ≤ 7293034; omega⟩ rfl (fun r1009 u1009 h => ?_)
  refine a_iload C dL_law_1012 5 rfl rfl ?_
  refine a_icmp_eq (tgt := 1019) C dL_law_1014 (by decide) rfl (fun hc => ?_) (fun hc => ?_)
  · replace h := h.1 hc
    refine a_iload C dL_law_1019 5 rfl rfl ?_
    refine a_if_ne (tgt := 1036) C dL_law_1021 (by decide) rfl (fun hc => ?_) (fun hc => ?_)
    · replace h := h.2 hc
      refine a_goto (tgt := 1943) C dL_law_1036 (by decide) ?_
      refine a_sub (lv' := [(0, .ref b), (1, .ref (L o1)), (2, .ref (L o2)), (3, .ref (L o3)), (4, .int x4)]) [0, 1, 2, 3, 4] rfl ?_
      refine a_wid (k := 601024 - 4 * n) (n := 7293034 - 24 * n) (by omega) (by omega) ?_
      exact hk u1009 h
    · replace h := h.1 hc
      refine a_aload_n C dL_law_1024 rfl 3 rfl rfl ?_
      refine a_iconst (v := 0) C dL_law_1025 (by decide) rfl ?_
      obtain ⟨q1026, h⟩ := h
      refine a_lald C dL_law_1026 h3 n3 q1026 rfl ?_
      refine a_iload C dL_law_1027 6 rfl rfl ?_
      refine a_i2l C dL_law_1029 rfl ?_
      refine a_lcmp C dL_law_1030 rfl ?_
      refine a_if_eq (tgt := 1036) C dL_law_1031 (by decide) rfl (fun hc => ?_) (fun hc => ?_)
      · replace h := h.1 hc
        refine a_goto (tgt := 1943) C dL_law_1036 (by decide) ?_
        refine a_sub (lv' := [(0, .ref b), (1, .ref (L o1)), (2, .ref (L o2)), (3, .ref (L o3)), (4, .int x4)]) [0, 1, 2, 3, 4] rfl ?_
        refine a_wid (k := 601024 - 4 * n) (n := 7293034 - 24 * n) (by omega) (by omega) ?_
        exact hk u1009 h
      · replace h := h.2 hc
        exact h.elim
  · replace h := h.2 hc
    exact h.elim
def wp_case_17 (E : ms_En) (Ln : Nat) (xs : Nat → Int32) (o1 o2 o3 : Nat) (x4 : Int32) (k : ms_St → Prop) (u : ms_St) : Prop := vp_in (x4 + 1) Ln ∧ (vp_in (x4 + 2) Ln ∧ (wp_L_arrival E u o1 (xs (Int32.toNatClampNeg (x4 + 1))) (xs (Int32.toNatClampNeg (x4 + 2))) o3 (fun r1053 u1053 => vp_in (x4 + 1) Ln ∧ (vp_in (x4 + 2) Ln ∧ (wp_X11_arrival E u1053 o2 (xs (Int32.toNatClampNeg (x4 + 1))) (xs (Int32.toNatClampNeg (x4 + 2))) (fun r1071 u1071 => wp_X11_thrown E u1071 o2 (fun r1077 u1077 => (r1077 = r1053 → (r1053 = 0 → vp_in 0 1 ∧ (((lg_cmp (ms_J u1077 o3 (Int32.toNatClampNeg 0)) (Int32.toInt64 r1071)) = 0 → k u1077) ∧ (¬ (lg_cmp (ms_J u1077 o3 (Int32.toNatClampNeg 0)) (Int32.toInt64 r1071)) = 0 → False))) ∧ (¬ r1053 = 0 → k u1077)) ∧ (¬ r1077 = r1053 → False))))))))
set_option maxHeartbeats 4000000 in
set_option maxRecDepth 100000 in
theorem c_case_17 {p : Program} {l : Launch} {e : Env} {s : State} {m : MethodId} {args : Array Value} {below : List Frame} {meth : Method} {c : Code} {G : va_G} {cy : Nat → ClassId} {A : Nat → Prop} {L : Nat → Nat} {E : ms_En} {Q : State → Prop} (C : ms_Cx p m c cL_law 7 s args (Cond.initialized "CensusWalkLaw") "CensusWalkLaw" G cy A) (hl9 : l.stackTraces = false) (hE : ms_WT E) {b Ln : Nat} {xs : Nat → Int32} (hX : va_X b Ln xs s s.heap) (hbl : b < s.heap.size) (hbA : ¬ A b) {o1 o2 o3 : Nat} (h1 : ms_is E o1 10) (h2 : ms_is E o2 11) (h3 : ms_is E o3 14) (n3 : ms_N E o3 = 1) {k : ms_St → Prop} {x4 : Int32} {n : Nat} (hn9 : n ≤ 1000) (hk : ∀ u : ms_St, k u → ms_At p l e room_1 s m args below meth c 7 G cy A L (601024 - 4 * n) (7293034 - 24 * n) Q E u 1943 [(0, .ref b), (1, .ref (L o1)), (2, .ref (L o2)), (3, .ref (L o3)), (4, .int x4)] []) (u : ms_St) (h : wp_case_17 E Ln xs o1 o2 o3 x4 k u) : ms_At p l e room_1 s m args below meth c 7 G cy A L (601024 - 4 * (n + 1)) (7293034 - 24 * (n + 1)) Q E u 1039 [(0, .ref b), (1, .ref (L o1)), (2, .ref (L o2)), (3, .ref (L o3)), (4, .int x4)] [] := by
  unfold wp_case_17 at h
  refine a_aload_n C dL_law_1039 rfl 1 rfl rfl ?_
  refine a_aload_n C dL_law_1040 rfl 0 rfl rfl ?_
  refine a_iload C dL_law_1041 4 rfl rfl ?_
  refine a_iconst (v := 1) C dL_law_1043 (by decide) rfl ?_
  refine a_iadd C dL_law_1044 rfl ?_
  obtain ⟨q1045, h⟩ := h
  refine a_sld C hX hbl hbA dL_law_1045 q1045 rfl ?_
  refine a_aload_n C dL_law_1046 rfl 0 rfl rfl ?_
  refine a_iload C dL_law_1047 4 rfl rfl ?_
  refine a_iconst (v := 2) C dL_law_1049 (by decide) rfl ?_
  refine a_iadd C dL_law_1050 rfl ?_
  obtain ⟨q1051, h⟩ := h
  refine a_sld C hX hbl hbA dL_law_1051 q1051 rfl ?_
  refine a_aload_n C dL_law_1052 rfl 3 rfl rfl ?_
  refine a_callZI C (c_L_arrival l G cy L E hE hl9 u o1 (xs (Int32.toNatClampNeg (x4 + 1))) (xs (Int32.toNatClampNeg (x4 + 2))) o3 h1 h3 _ h) kw_5_20 kw_5_21 kw_1_0 kw_5_22 rfl rfl pd_L_arrival ⟨(Nat.le_of_ble_eq_true rfl), (Nat.le_of_ble_eq_true rfl)⟩ dL_law_1053 rfl (Nat.le_of_ble_eq_true rfl) ⟨by show _ ≤ 601024; omega, by show _ ≤ 7293034; omega⟩ rfl (fun r1053 u1053 h => ?_)
  refine a_istore (lv' := [(0, .ref b), (1, .ref (L o1)), (2, .ref (L o2)), (3, .ref (L o3)), (4, .int x4), (5, .int r1053)]) C dL_law_1056 (by decide) [1, 2, 3, 4, 5, 0] rfl rfl ?_
  refine a_aload_n C dL_law_1058 rfl 2 rfl rfl ?_
  refine a_aload_n C dL_law_1059 rfl 0 rfl rfl ?_
  refine a_iload C dL_law_1060 4 rfl rfl ?_
  refine a_iconst (v := 1) C dL_law_1062 (by decide) rfl ?_
  refine a_iadd C dL_law_1063 rfl ?_
  obtain ⟨q1064, h⟩ := h
  refine a_sld C hX hbl hbA dL_law_1064 q1064 rfl ?_
  refine a_aload_n C dL_law_1065 rfl 0 rfl rfl ?_
  refine a_iload C dL_law_1066 4 rfl rfl ?_
  refine a_iconst (v := 2) C dL_law_1068 (by decide) rfl ?_
  refine a_iadd C dL_law_1069 rfl ?_
  obtain ⟨q1070, h⟩ := h
  refine a_sld C hX hbl hbA dL_law_1070 q1070 rfl ?_
  refine a_callVI C (c_X11_arrival l G cy L E hE u1053 o2 (xs (Int32.toNatClampNeg (x4 + 1))) (xs (Int32.toNatClampNeg (x4 + 2))) h2 _ h) h2 rfl (by decide) kw_7_112 kw_7_113 kw_7_114 kw_1_12 kw_7_115 rfl rfl pd_X11_arrival ⟨(Nat.le_of_ble_eq_true rfl), (Nat.le_of_ble_eq_true rfl)⟩ dL_law_1071 rfl (Nat.le_of_ble_eq_true rfl) ⟨by show _ ≤ 601024; omega, by show _ ≤ 7293034; omega⟩ rfl (fun r1071 u1071 h => ?_)
  refine a_istore (lv' := [(0, .ref b), (1, .ref (L o1)), (2, .ref (L o2)), (3, .ref (L o3)), (4, .int x4), (5, .int r1053), (6, .int r1071)]) C dL_law_1074 (by decide) [1, 2, 3, 4, 5, 6, 0] rfl rfl ?_
  refine a_aload_n C dL_law_1076 rfl 2 rfl rfl ?_
  refine a_callVI C (c_X11_thrown l G cy L E hE u1071 o2 h2 _ h) h2 rfl (by decide) kw_6_86 kw_6_87 kw_6_88 kw_1_12 kw_6_89 rfl rfl pd_X11_thrown ⟨(Nat.le_of_ble_eq_true rfl), (Nat.le_of_ble_eq_true rfl)⟩ dL_law_1077 rfl (Nat.le_of_ble_eq_true rfl) ⟨by show _ ≤ 601024; omega, by show _ ≤ 7293034; omega⟩ rfl (fun r1077 u1077 h => ?_)
  refine a_iload C dL_law_1080 5 rfl rfl ?_
  refine a_icmp_eq (tgt := 1087) C dL_law_1082 (by decide) rfl (fun hc => ?_) (fun hc => ?_)
  · replace h := h.1 hc
    refine a_iload C dL_law_1087 5 rfl rfl ?_
    refine a_if_ne (tgt := 1104) C dL_law_1089 (by decide) rfl (fun hc => ?_) (fun hc => ?_)
    · replace h := h.2 hc
      refine a_goto (tgt := 1943) C dL_law_1104 (by decide) ?_
      refine a_sub (lv' := [(0, .ref b), (1, .ref (L o1)), (2, .ref (L o2)), (3, .ref (L o3)), (4, .int x4)]) [0, 1, 2, 3, 4] rfl ?_
      refine a_wid (k := 601024 - 4 * n) (n := 7293034 - 24 * n) (by omega) (by omega) ?_
      exact hk u1077 h
    · replace h := h.1 hc
      refine a_aload_n C dL_law_1092 rfl 3 rfl rfl ?_
      refine a_iconst (v := 0) C dL_law_1093 (by decide) rfl ?_
      obtain ⟨q1094, h⟩ := h
      refine a_lald C dL_law_1094 h3 n3 q1094 rfl ?_
      refine a_iload C dL_law_1095 6 rfl rfl ?_
      refine a_i2l C dL_law_1097 rfl ?_
      refine a_lcmp C dL_law_1098 rfl ?_
      refine a_if_eq (tgt := 1104) C dL_law_1099 (by decide) rfl (fun hc => ?_) (fun hc => ?_)
      · replace h := h.1 hc
        refine a_goto (tgt := 1943) C dL_law_1104 (by decide) ?_
        refine a_sub (lv' := [(0, .ref b), (1, .ref (L o1)), (2, .ref (L o2)), (3, .ref (L o3)), (4, .int x4)]) [0, 1, 2, 3, 4] rfl ?_
        refine a_wid (k := 601024 - 4 * n) (n := 7293034 - 24 * n) (by omega) (by omega) ?_
        exact hk u1077 h
      · replace h := h.2 hc
        exact h.elim
  · replace h := h.2 hc
    exact h.elim
def wp_case_18 (E : ms_En) (Ln : Nat) (xs : Nat → Int32) (o1 o2 o3 : Nat) (x4 : Int32) (k : ms_St → Prop) (u : ms_St) : Prop := vp_in (x4 + 1) Ln ∧ (wp_L_finish E u o1 (xs (Int32.toNatClampNeg (x4 + 1))) o3 (fun r1115 u1115 => vp_in (x4 + 1) Ln ∧ (wp_X11_finish E u1115 o2 (xs (Int32.toNatClampNeg (x4 + 1))) (fun r1127 u1127 => wp_X11_thrown E u1127 o2 (fun r1133 u1133 => (r1133 = r1115 → (r1115 = 0 → vp_in 0 1 ∧ (((lg_cmp (ms_J u1133 o3 (Int32.toNatClampNeg 0)) (Int32.toInt64 r1127)) = 0 → k u1133) ∧ (¬ (lg_cmp (ms_J u1133 o3 (Int32.toNatClampNeg 0)) (Int32.toInt64 r1127)) = 0 → False))) ∧ (¬ r1115 = 0 → k u1133)) ∧ (¬ r1133 = r1115 → False))))))
set_option maxHeartbeats 4000000 in
set_option maxRecDepth 100000 in
theorem c_case_18 {p : Program} {l : Launch} {e : Env} {s : State} {m : MethodId} {args : Array Value} {below : List Frame} {meth : Method} {c : Code} {G : va_G} {cy : Nat → ClassId} {A : Nat → Prop} {L : Nat → Nat} {E : ms_En} {Q : State → Prop} (C : ms_Cx p m c cL_law 7 s args (Cond.initialized "CensusWalkLaw") "CensusWalkLaw" G cy A) (hl9 : l.stackTraces = false) (hE : ms_WT E) {b Ln : Nat} {xs : Nat → Int32} (hX : va_X b Ln xs s s.heap) (hbl : b < s.heap.size) (hbA : ¬ A b) {o1 o2 o3 : Nat} (h1 : ms_is E o1 10) (h2 : ms_is E o2 11) (h3 : ms_is E o3 14) (n3 : ms_N E o3 = 1) {k : ms_St → Prop} {x4 : Int32} {n : Nat} (hn9 : n ≤ 1000) (hk : ∀ u : ms_St, k u → ms_At p l e room_1 s m args below meth c 7 G cy A L (601024 - 4 * n) (7293034 - 24 * n) Q E u 1943 [(0, .ref b), (1, .ref (L o1)), (2, .ref (L o2)), (3, .ref (L o3)), (4, .int x4)] []) (u : ms_St) (h : wp_case_18 E Ln xs o1 o2 o3 x4 k u) : ms_At p l e room_1 s m args below meth c 7 G cy A L (601024 - 4 * (n + 1)) (7293034 - 24 * (n + 1)) Q E u 1107 [(0, .ref b), (1, .ref (L o1)), (2, .ref (L o2)), (3, .ref (L o3)), (4, .int x4)] [] := by
  unfold wp_case_18 at h
  refine a_aload_n C dL_law_1107 rfl 1 rfl rfl ?_
  refine a_aload_n C dL_law_1108 rfl 0 rfl rfl ?_
  refine a_iload C dL_law_1109 4 rfl rfl ?_
  refine a_iconst (v := 1) C dL_law_1111 (by decide) rfl ?_
  refine a_iadd C dL_law_1112 rfl ?_
  obtain ⟨q1113, h⟩ := h
  refine a_sld C hX hbl hbA dL_law_1113 q1113 rfl ?_
  refine a_aload_n C dL_law_1114 rfl 3 rfl rfl ?_
  refine a_callZI C (c_L_finish l G cy L E hE hl9 u o1 (xs (Int32.toNatClampNeg (x4 + 1))) o3 h1 h3 _ h) kw_5_27 kw_5_28 kw_1_0 kw_5_29 rfl rfl pd_L_finish ⟨(Nat.le_of_ble_eq_true rfl), (Nat.le_of_ble_eq_true rfl)⟩ dL_law_1115 rfl (Nat.le_of_ble_eq_true rfl) ⟨by show _ ≤ 601024; omega, by show _ ≤ 7293034; omega⟩ rfl (fun r1115 u1115 h => ?_)
  refine a_istore (lv' := [(0, .ref b), (1, .ref (L o1)), (2, .ref (L o2)), (3, .ref (L o3)), (4, .int x4), (5, .int r1115)]) C dL_law_1118 (by decide) [1, 2, 3, 4, 5, 0] rfl rfl ?_
  refine a_aload_n C dL_law_1120 rfl 2 rfl rfl ?_
  refine a_aload_n C dL_law_1121 rfl 0 rfl rfl ?_
  refine a_iload C dL_law_1122 4 rfl rfl ?_
  refine a_iconst (v := 1) C dL_law_1124 (by decide) rfl ?_
  refine a_iadd C dL_law_1125 rfl ?_
  obtain ⟨q1126, h⟩ := h
  refine a_sld C hX hbl hbA dL_law_1126 q1126 rfl ?_
  refine a_callVI C (c_X11_finish l G cy L E hE u1115 o2 (xs (Int32.toNatClampNeg (x4 + 1))) h2 _ h) h2 rfl (by decide) kw_7_116 kw_7_117 kw_7_118 kw_1_12 kw_7_119 rfl rfl pd_X11_finish ⟨(Nat.le_of_ble_eq_true rfl), (Nat.le_of_ble_eq_true rfl)⟩ dL_law_1127 rfl (Nat.le_of_ble_eq_true rfl) ⟨by show _ ≤ 601024; omega, by show _ ≤ 7293034; omega⟩ rfl (fun r1127 u1127 h => ?_)
  refine a_istore (lv' := [(0, .ref b), (1, .ref (L o1)), (2, .ref (L o2)), (3, .ref (L o3)), (4, .int x4), (5, .int r1115), (6, .int r1127)]) C dL_law_1130 (by decide) [1, 2, 3, 4, 5, 6, 0] rfl rfl ?_
  refine a_aload_n C dL_law_1132 rfl 2 rfl rfl ?_
  refine a_callVI C (c_X11_thrown l G cy L E hE u1127 o2 h2 _ h) h2 rfl (by decide) kw_6_86 kw_6_87 kw_6_88 kw_1_12 kw_6_89 rfl rfl pd_X11_thrown ⟨(Nat.le_of_ble_eq_true rfl), (Nat.le_of_ble_eq_true rfl)⟩ dL_law_1133 rfl (Nat.le_of_ble_eq_true rfl) ⟨by show _ ≤ 601024; omega, by show _ ≤ 7293034; omega⟩ rfl (fun r1133 u1133 h => ?_)
  refine a_iload C dL_law_1136 5 rfl rfl ?_
  refine a_icmp_eq (tgt := 1143) C dL_law_1138 (by decide) rfl (fun hc => ?_) (fun hc => ?_)
  · replace h := h.1 hc
    refine a_iload C dL_law_1143 5 rfl rfl ?_
    refine a_if_ne (tgt := 1160) C dL_law_1145 (by decide) rfl (fun hc => ?_) (fun hc => ?_)
    · replace h := h.2 hc
      refine a_goto (tgt := 1943) C dL_law_1160 (by decide) ?_
      refine a_sub (lv' := [(0, .ref b), (1, .ref (L o1)), (2, .ref (L o2)), (3, .ref (L o3)), (4, .int x4)]) [0, 1, 2, 3, 4] rfl ?_
      refine a_wid (k := 601024 - 4 * n) (n := 7293034 - 24 * n) (by omega) (by omega) ?_
      exact hk u1133 h
    · replace h := h.1 hc
      refine a_aload_n C dL_law_1148 rfl 3 rfl rfl ?_
      refine a_iconst (v := 0) C dL_law_1149 (by decide) rfl ?_
      obtain ⟨q1150, h⟩ := h
      refine a_lald C dL_law_1150 h3 n3 q1150 rfl ?_
      refine a_iload C dL_law_1151 6 rfl rfl ?_
      refine a_i2l C dL_law_1153 rfl ?_
      refine a_lcmp C dL_law_1154 rfl ?_
      refine a_if_eq (tgt := 1160) C dL_law_1155 (by decide) rfl (fun hc => ?_) (fun hc => ?_)
      · replace h := h.1 hc
        refine a_goto (tgt := 1943) C dL_law_1160 (by decide) ?_
        refine a_sub (lv' := [(0, .ref b), (1, .ref (L o1)), (2, .ref (L o2)), (3, .ref (L o3)), (4, .int x4)]) [0, 1, 2, 3, 4] rfl ?_
        refine a_wid (k := 601024 - 4 * n) (n := 7293034 - 24 * n) (by omega) (by omega) ?_
        exact hk u1133 h
      · replace h := h.2 hc
        exact h.elim
  · replace h := h.2 hc
    exact h.elim
def wp_case_19 (E : ms_En) (Ln : Nat) (xs : Nat → Int32) (o1 o2 o3 : Nat) (x4 : Int32) (k : ms_St → Prop) (u : ms_St) : Prop := wp_X10_finishAll E u o1 (fun r1164 u1164 => wp_X11_finishAll E u1164 o2 (fun r1168 u1168 => (r1164 = r1168 → k u1168) ∧ (¬ r1164 = r1168 → False)))
set_option maxHeartbeats 4000000 in
set_option maxRecDepth 100000 in
theorem c_case_19 {p : Program} {l : Launch} {e : Env} {s : State} {m : MethodId} {args : Array Value} {below : List Frame} {meth : Method} {c : Code} {G : va_G} {cy : Nat → ClassId} {A : Nat → Prop} {L : Nat → Nat} {E : ms_En} {Q : State → Prop} (C : ms_Cx p m c cL_law 7 s args (Cond.initialized "CensusWalkLaw") "CensusWalkLaw" G cy A) (hl9 : l.stackTraces = false) (hE : ms_WT E) {b Ln : Nat} {xs : Nat → Int32} (hX : va_X b Ln xs s s.heap) (hbl : b < s.heap.size) (hbA : ¬ A b) {o1 o2 o3 : Nat} (h1 : ms_is E o1 10) (h2 : ms_is E o2 11) (h3 : ms_is E o3 14) (n3 : ms_N E o3 = 1) {k : ms_St → Prop} {x4 : Int32} {n : Nat} (hn9 : n ≤ 1000) (hk : ∀ u : ms_St, k u → ms_At p l e room_1 s m args below meth c 7 G cy A L (601024 - 4 * n) (7293034 - 24 * n) Q E u 1943 [(0, .ref b), (1, .ref (L o1)), (2, .ref (L o2)), (3, .ref (L o3)), (4, .int x4)] []) (u : ms_St) (h : wp_case_19 E Ln xs o1 o2 o3 x4 k u) : ms_At p l e room_1 s m args below meth c 7 G cy A L (601024 - 4 * (n + 1)) (7293034 - 24 * (n + 1)) Q E u 1163 [(0, .ref b), (1, .ref (L o1)), (2, .ref (L o2)), (3, .ref (L o3)), (4, .int x4)] [] := by
  unfold wp_case_19 at h
  refine a_aload_n C dL_law_1163 rfl 1 rfl rfl ?_
  refine a_callVI C (c_X10_finishAll l G cy L E hE u o1 h1 _ h) h1 rfl (by decide) kw_2_218 kw_2_219 kw_2_220 kw_1_1 kw_2_221 rfl rfl pd_X10_finishAll ⟨(Nat.le_of_ble_eq_true rfl), (Nat.le_of_ble_eq_true rfl)⟩ dL_law_1164 rfl (Nat.le_of_ble_eq_true rfl) ⟨by show _ ≤ 601024; omega, by show _ ≤ 7293034; omega⟩ rfl (fun r1164 u1164 h => ?_)
  refine a_aload_n C dL_law_1167 rfl 2 rfl rfl ?_
  refine a_callVI C (c_X11_finishAll l G cy L E hE u1164 o2 h2 _ h) h2 rfl (by decide) kw_7_120 kw_7_121 kw_7_122 kw_1_12 kw_7_123 rfl rfl pd_X11_finishAll ⟨(Nat.le_of_ble_eq_true rfl), (Nat.le_of_ble_eq_true rfl)⟩ dL_law_1168 rfl (Nat.le_of_ble_eq_true rfl) ⟨by show _ ≤ 601024; omega, by show _ ≤ 7293034; omega⟩ rfl (fun r1168 u1168 h => ?_)
  refine a_icmp_eq (tgt := 1943) C dL_law_1171 (by decide) rfl (fun hc => ?_) (fun hc => ?_)
  · replace h := h.1 hc
    refine a_wid (k := 601024 - 4 * n) (n := 7293034 - 24 * n) (by omega) (by omega) ?_
    exact hk u1168 h
  · replace h := h.2 hc
    exact h.elim
def wp_case_20 (E : ms_En) (Ln : Nat) (xs : Nat → Int32) (o1 o2 o3 : Nat) (x4 : Int32) (k : ms_St → Prop) (u : ms_St) : Prop := wp_X10_counted E u o1 (fun r1177 u1177 => wp_X11_counted E u1177 o2 (fun r1181 u1181 => (r1177 = r1181 → k u1181) ∧ (¬ r1177 = r1181 → False)))
set_option maxHeartbeats 4000000 in
set_option maxRecDepth 100000 in
theorem c_case_20 {p : Program} {l : Launch} {e : Env} {s : State} {m : MethodId} {args : Array Value} {below : List Frame} {meth : Method} {c : Code} {G : va_G} {cy : Nat → ClassId} {A : Nat → Prop} {L : Nat → Nat} {E : ms_En} {Q : State → Prop} (C : ms_Cx p m c cL_law 7 s args (Cond.initialized "CensusWalkLaw") "CensusWalkLaw" G cy A) (hl9 : l.stackTraces = false) (hE : ms_WT E) {b Ln : Nat} {xs : Nat → Int32} (hX : va_X b Ln xs s s.heap) (hbl : b < s.heap.size) (hbA : ¬ A b) {o1 o2 o3 : Nat} (h1 : ms_is E o1 10) (h2 : ms_is E o2 11) (h3 : ms_is E o3 14) (n3 : ms_N E o3 = 1) {k : ms_St → Prop} {x4 : Int32} {n : Nat} (hn9 : n ≤ 1000) (hk : ∀ u : ms_St, k u → ms_At p l e room_1 s m args below meth c 7 G cy A L (601024 - 4 * n) (7293034 - 24 * n) Q E u 1943 [(0, .ref b), (1, .ref (L o1)), (2, .ref (L o2)), (3, .ref (L o3)), (4, .int x4)] []) (u : ms_St) (h : wp_case_20 E Ln xs o1 o2 o3 x4 k u) : ms_At p l e room_1 s m args below meth c 7 G cy A L (601024 - 4 * (n + 1)) (7293034 - 24 * (n + 1)) Q E u 1176 [(0, .ref b), (1, .ref (L o1)), (2, .ref (L o2)), (3, .ref (L o3)), (4, .int x4)] [] := by
  unfold wp_case_20 at h
  refine a_aload_n C dL_law_1176 rfl 1 rfl rfl ?_
  refine a_callVI C (c_X10_counted l G cy L E hE u o1 h1 _ h) h1 rfl (by decide) kw_3_85 kw_3_86 kw_3_87 kw_1_1 kw_3_88 rfl rfl pd_X10_counted ⟨(Nat.le_of_ble_eq_true rfl), (Nat.le_of_ble_eq_true rfl)⟩ dL_law_1177 rfl (Nat.le_of_ble_eq_true rfl) ⟨by show _ ≤ 601024; omega, by show _ ≤ 7293034; omega⟩ rfl (fun r1177 u1177 h => ?_)
  refine a_aload_n C dL_law_1180 rfl 2 rfl rfl ?_
  refine a_callVI C (c_X11_counted l G cy L E hE u1177 o2 h2 _ h) h2 rfl (by decide) kw_7_124 kw_7_125 kw_7_126 kw_1_12 kw_7_127 rfl rfl pd_X11_counted ⟨(Nat.le_of_ble_eq_true rfl), (Nat.le_of_ble_eq_true rfl)⟩ dL_law_1181 rfl (Nat.le_of_ble_eq_true rfl) ⟨by show _ ≤ 601024; omega, by show _ ≤ 7293034; omega⟩ rfl (fun r1181 u1181 h => ?_)
  refine a_icmp_eq (tgt := 1943) C dL_law_1184 (by decide) rfl (fun hc => ?_) (fun hc => ?_)
  · replace h := h.1 hc
    refine a_wid (k := 601024 - 4 * n) (n := 7293034 - 24 * n) (by omega) (by omega) ?_
    exact hk u1181 h
  · replace h := h.2 hc
    exact h.elim
def wp_case_21 (E : ms_En) (Ln : Nat) (xs : Nat → Int32) (o1 o2 o3 : Nat) (x4 : Int32) (k : ms_St → Prop) (u : ms_St) : Prop := wp_X10_persons E u o1 (fun r1190 u1190 => wp_X11_persons E u1190 o2 (fun r1194 u1194 => (r1190 = r1194 → k u1194) ∧ (¬ r1190 = r1194 → False)))
set_option maxHeartbeats 4000000 in
set_option maxRecDepth 100000 in
theorem c_case_21 {p : Program} {l : Launch} {e : Env} {s : State} {m : MethodId} {args : Array Value} {below : List Frame} {meth : Method} {c : Code} {G : va_G} {cy : Nat → ClassId} {A : Nat → Prop} {L : Nat → Nat} {E : ms_En} {Q : State → Prop} (C : ms_Cx p m c cL_law 7 s args (Cond.initialized "CensusWalkLaw") "CensusWalkLaw" G cy A) (hl9 : l.stackTraces = false) (hE : ms_WT E) {b Ln : Nat} {xs : Nat → Int32} (hX : va_X b Ln xs s s.heap) (hbl : b < s.heap.size) (hbA : ¬ A b) {o1 o2 o3 : Nat} (h1 : ms_is E o1 10) (h2 : ms_is E o2 11) (h3 : ms_is E o3 14) (n3 : ms_N E o3 = 1) {k : ms_St → Prop} {x4 : Int32} {n : Nat} (hn9 : n ≤ 1000) (hk : ∀ u : ms_St, k u → ms_At p l e room_1 s m args below meth c 7 G cy A L (601024 - 4 * n) (7293034 - 24 * n) Q E u 1943 [(0, .ref b), (1, .ref (L o1)), (2, .ref (L o2)), (3, .ref (L o3)), (4, .int x4)] []) (u : ms_St) (h : wp_case_21 E Ln xs o1 o2 o3 x4 k u) : ms_At p l e room_1 s m args below meth c 7 G cy A L (601024 - 4 * (n + 1)) (7293034 - 24 * (n + 1)) Q E u 1189 [(0, .ref b), (1, .ref (L o1)), (2, .ref (L o2)), (3, .ref (L o3)), (4, .int x4)] [] := by
  unfold wp_case_21 at h
  refine a_aload_n C dL_law_1189 rfl 1 rfl rfl ?_
  refine a_callVI C (c_X10_persons l G cy L E hE u o1 h1 _ h) h1 rfl (by decide) kw_3_89 kw_3_90 kw_3_91 kw_1_1 kw_3_92 rfl rfl pd_X10_persons ⟨(Nat.le_of_ble_eq_true rfl), (Nat.le_of_ble_eq_true rfl)⟩ dL_law_1190 rfl (Nat.le_of_ble_eq_true rfl) ⟨by show _ ≤ 601024; omega, by show _ ≤ 7293034; omega⟩ rfl (fun r1190 u1190 h => ?_)
  refine a_aload_n C dL_law_1193 rfl 2 rfl rfl ?_
  refine a_callVI C (c_X11_persons l G cy L E hE u1190 o2 h2 _ h) h2 rfl (by decide) kw_7_128 kw_7_129 kw_7_130 kw_1_12 kw_7_131 rfl rfl pd_X11_persons ⟨(Nat.le_of_ble_eq_true rfl), (Nat.le_of_ble_eq_true rfl)⟩ dL_law_1194 rfl (Nat.le_of_ble_eq_true rfl) ⟨by show _ ≤ 601024; omega, by show _ ≤ 7293034; omega⟩ rfl (fun r1194 u1194 h => ?_)
  refine a_icmp_eq (tgt := 1943) C dL_law_1197 (by decide) rfl (fun hc => ?_) (fun hc => ?_)
  · replace h := h.1 hc
    refine a_wid (k := 601024 - 4 * n) (n := 7293034 - 24 * n) (by omega) (by omega) ?_
    exact hk u1194 h
  · replace h := h.2 hc
    exact h.elim
def wp_case_22 (E : ms_En) (Ln : Nat) (xs : Nat → Int32) (o1 o2 o3 : Nat) (x4 : Int32) (k : ms_St → Prop) (u : ms_St) : Prop := vp_in (x4 + 1) Ln ∧ (wp_L_calls E u o1 (xs (Int32.toNatClampNeg (x4 + 1))) o3 (fun r1210 u1210 => vp_in (x4 + 1) Ln ∧ (wp_X11_calls E u1210 o2 (xs (Int32.toNatClampNeg (x4 + 1))) (fun r1222 u1222 => wp_X11_thrown E u1222 o2 (fun r1228 u1228 => (r1228 = r1210 → (r1210 = 0 → vp_in 0 1 ∧ (((lg_cmp (ms_J u1228 o3 (Int32.toNatClampNeg 0)) (Int32.toInt64 r1222)) = 0 → k u1228) ∧ (¬ (lg_cmp (ms_J u1228 o3 (Int32.toNatClampNeg 0)) (Int32.toInt64 r1222)) = 0 → False))) ∧ (¬ r1210 = 0 → k u1228)) ∧ (¬ r1228 = r1210 → False))))))
set_option maxHeartbeats 4000000 in
set_option maxRecDepth 100000 in
theorem c_case_22 {p : Program} {l : Launch} {e : Env} {s : State} {m : MethodId} {args : Array Value} {below : List Frame} {meth : Method} {c : Code} {G : va_G} {cy : Nat → ClassId} {A : Nat → Prop} {L : Nat → Nat} {E : ms_En} {Q : State → Prop} (C : ms_Cx p m c cL_law 7 s args (Cond.initialized "CensusWalkLaw") "CensusWalkLaw" G cy A) (hl9 : l.stackTraces = false) (hE : ms_WT E) {b Ln : Nat} {xs : Nat → Int32} (hX : va_X b Ln xs s s.heap) (hbl : b < s.heap.size) (hbA : ¬ A b) {o1 o2 o3 : Nat} (h1 : ms_is E o1 10) (h2 : ms_is E o2 11) (h3 : ms_is E o3 14) (n3 : ms_N E o3 = 1) {k : ms_St → Prop} {x4 : Int32} {n : Nat} (hn9 : n ≤ 1000) (hk : ∀ u : ms_St, k u → ms_At p l e room_1 s m args below meth c 7 G cy A L (601024 - 4 * n) (7293034 - 24 * n) Q E u 1943 [(0, .ref b), (1, .ref (L o1)), (2, .ref (L o2)), (3, .ref (L o3)), (4, .int x4)] []) (u : ms_St) (h : wp_case_22 E Ln xs o1 o2 o3 x4 k u) : ms_At p l e room_1 s m args below meth c 7 G cy A L (601024 - 4 * (n + 1)) (7293034 - 24 * (n + 1)) Q E u 1202 [(0, .ref b), (1, .ref (L o1)), (2, .ref (L o2)), (3, .ref (L o3)), (4, .int x4)] [] := by
  unfold wp_case_22 at h
  refine a_aload_n C dL_law_1202 rfl 1 rfl rfl ?_
  refine a_aload_n C dL_law_1203 rfl 0 rfl rfl ?_
  refine a_iload C dL_law_1204 4 rfl rfl ?_
  refine a_iconst (v := 1) C dL_law_1206 (by decide) rfl ?_
  refine a_iadd C dL_law_1207 rfl ?_
  obtain ⟨q1208, h⟩ := h
  refine a_sld C hX hbl hbA dL_law_1208 q1208 rfl ?_
  refine a_aload_n C dL_law_1209 rfl 3 rfl rfl ?_
  refine a_callZI C (c_L_calls l G cy L E hE hl9 u o1 (xs (Int32.toNatClampNeg (x4 + 1))) o3 h1 h3 _ h) kw_5_34 kw_5_35 kw_1_0 kw_5_36 rfl rfl pd_L_calls ⟨(Nat.le_of_ble_eq_true rfl), (Nat.le_of_ble_eq_true rfl)⟩ dL_law_1210 rfl (Nat.le_of_ble_eq_true rfl) ⟨by show _ ≤ 601024; omega, by show _ ≤ 7293034; omega⟩ rfl (fun r1210 u1210 h => ?_)
  refine a_istore (lv' := [(0, .ref b), (1, .ref (L o1)), (2, .ref (L o2)), (3, .ref (L o3)), (4, .int x4), (5, .int r1210)]) C dL_law_1213 (by decide) [1, 2, 3, 4, 5, 0] rfl rfl ?_
  refine a_aload_n C dL_law_1215 rfl 2 rfl rfl ?_
  refine a_aload_n C dL_law_1216 rfl 0 rfl rfl ?_
  refine a_iload C dL_law_1217 4 rfl rfl ?_
  refine a_iconst (v := 1) C dL_law_1219 (by decide) rfl ?_
  refine a_iadd C dL_law_1220 rfl ?_
  obtain ⟨q1221, h⟩ := h
  refine a_sld C hX hbl hbA dL_law_1221 q1221 rfl ?_
  refine a_callVI C (c_X11_calls l G cy L E hE u1210 o2 (xs (Int32.toNatClampNeg (x4 + 1))) h2 _ h) h2 rfl (by decide) kw_7_132 kw_7_133 kw_7_134 kw_1_12 kw_7_135 rfl rfl pd_X11_calls ⟨(Nat.le_of_ble_eq_true rfl), (Nat.le_of_ble_eq_true rfl)⟩ dL_law_1222 rfl (Nat.le_of_ble_eq_true rfl) ⟨by show _ ≤ 601024; omega, by show _ ≤ 7293034; omega⟩ rfl (fun r1222 u1222 h => ?_)
  refine a_istore (lv' := [(0, .ref b), (1, .ref (L o1)), (2, .ref (L o2)), (3, .ref (L o3)), (4, .int x4), (5, .int r1210), (6, .int r1222)]) C dL_law_1225 (by decide) [1, 2, 3, 4, 5, 6, 0] rfl rfl ?_
  refine a_aload_n C dL_law_1227 rfl 2 rfl rfl ?_
  refine a_callVI C (c_X11_thrown l G cy L E hE u1222 o2 h2 _ h) h2 rfl (by decide) kw_6_86 kw_6_87 kw_6_88 kw_1_12 kw_6_89 rfl rfl pd_X11_thrown ⟨(Nat.le_of_ble_eq_true rfl), (Nat.le_of_ble_eq_true rfl)⟩ dL_law_1228 rfl (Nat.le_of_ble_eq_true rfl) ⟨by show _ ≤ 601024; omega, by show _ ≤ 7293034; omega⟩ rfl (fun r1228 u1228 h => ?_)
  refine a_iload C dL_law_1231 5 rfl rfl ?_
  refine a_icmp_eq (tgt := 1238) C dL_law_1233 (by decide) rfl (fun hc => ?_) (fun hc => ?_)
  · replace h := h.1 hc
    refine a_iload C dL_law_1238 5 rfl rfl ?_
    refine a_if_ne (tgt := 1255) C dL_law_1240 (by decide) rfl (fun hc => ?_) (fun hc => ?_)
    · replace h := h.2 hc
      refine a_goto (tgt := 1943) C dL_law_1255 (by decide) ?_
      refine a_sub (lv' := [(0, .ref b), (1, .ref (L o1)), (2, .ref (L o2)), (3, .ref (L o3)), (4, .int x4)]) [0, 1, 2, 3, 4] rfl ?_
      refine a_wid (k := 601024 - 4 * n) (n := 7293034 - 24 * n) (by omega) (by omega) ?_
      exact hk u1228 h
    · replace h := h.1 hc
      refine a_aload_n C dL_law_1243 rfl 3 rfl rfl ?_
      refine a_iconst (v := 0) C dL_law_1244 (by decide) rfl ?_
      obtain ⟨q1245, h⟩ := h
      refine a_lald C dL_law_1245 h3 n3 q1245 rfl ?_
      refine a_iload C dL_law_1246 6 rfl rfl ?_
      refine a_i2l C dL_law_1248 rfl ?_
      refine a_lcmp C dL_law_1249 rfl ?_
      refine a_if_eq (tgt := 1255) C dL_law_1250 (by decide) rfl (fun hc => ?_) (fun hc => ?_)
      · replace h := h.1 hc
        refine a_goto (tgt := 1943) C dL_law_1255 (by decide) ?_
        refine a_sub (lv' := [(0, .ref b), (1, .ref (L o1)), (2, .ref (L o2)), (3, .ref (L o3)), (4, .int x4)]) [0, 1, 2, 3, 4] rfl ?_
        refine a_wid (k := 601024 - 4 * n) (n := 7293034 - 24 * n) (by omega) (by omega) ?_
        exact hk u1228 h
      · replace h := h.2 hc
        exact h.elim
  · replace h := h.2 hc
    exact h.elim
def wp_case_23 (E : ms_En) (Ln : Nat) (xs : Nat → Int32) (o1 o2 o3 : Nat) (x4 : Int32) (k : ms_St → Prop) (u : ms_St) : Prop := vp_in (x4 + 1) Ln ∧ (vp_in (x4 + 2) Ln ∧ (wp_L_soonest E u o1 (xs (Int32.toNatClampNeg (x4 + 1))) (xs (Int32.toNatClampNeg (x4 + 2))) o3 (fun r1272 u1272 => vp_in (x4 + 1) Ln ∧ (vp_in (x4 + 2) Ln ∧ (wp_X11_soonest E u1272 o2 (xs (Int32.toNatClampNeg (x4 + 1))) (xs (Int32.toNatClampNeg (x4 + 2))) (fun r1290 u1290 => wp_X11_thrown E u1290 o2 (fun r1296 u1296 => (r1296 = r1272 → (r1272 = 0 → vp_in 0 1 ∧ (((lg_cmp (ms_J u1296 o3 (Int32.toNatClampNeg 0)) (Int32.toInt64 r1290)) = 0 → k u1296) ∧ (¬ (lg_cmp (ms_J u1296 o3 (Int32.toNatClampNeg 0)) (Int32.toInt64 r1290)) = 0 → False))) ∧ (¬ r1272 = 0 → k u1296)) ∧ (¬ r1296 = r1272 → False))))))))
set_option maxHeartbeats 4000000 in
set_option maxRecDepth 100000 in
theorem c_case_23 {p : Program} {l : Launch} {e : Env} {s : State} {m : MethodId} {args : Array Value} {below : List Frame} {meth : Method} {c : Code} {G : va_G} {cy : Nat → ClassId} {A : Nat → Prop} {L : Nat → Nat} {E : ms_En} {Q : State → Prop} (C : ms_Cx p m c cL_law 7 s args (Cond.initialized "CensusWalkLaw") "CensusWalkLaw" G cy A) (hl9 : l.stackTraces = false) (hE : ms_WT E) {b Ln : Nat} {xs : Nat → Int32} (hX : va_X b Ln xs s s.heap) (hbl : b < s.heap.size) (hbA : ¬ A b) {o1 o2 o3 : Nat} (h1 : ms_is E o1 10) (h2 : ms_is E o2 11) (h3 : ms_is E o3 14) (n3 : ms_N E o3 = 1) {k : ms_St → Prop} {x4 : Int32} {n : Nat} (hn9 : n ≤ 1000) (hk : ∀ u : ms_St, k u → ms_At p l e room_1 s m args below meth c 7 G cy A L (601024 - 4 * n) (7293034 - 24 * n) Q E u 1943 [(0, .ref b), (1, .ref (L o1)), (2, .ref (L o2)), (3, .ref (L o3)), (4, .int x4)] []) (u : ms_St) (h : wp_case_23 E Ln xs o1 o2 o3 x4 k u) : ms_At p l e room_1 s m args below meth c 7 G cy A L (601024 - 4 * (n + 1)) (7293034 - 24 * (n + 1)) Q E u 1258 [(0, .ref b), (1, .ref (L o1)), (2, .ref (L o2)), (3, .ref (L o3)), (4, .int x4)] [] := by
  unfold wp_case_23 at h
  refine a_aload_n C dL_law_1258 rfl 1 rfl rfl ?_
  refine a_aload_n C dL_law_1259 rfl 0 rfl rfl ?_
  refine a_iload C dL_law_1260 4 rfl rfl ?_
  refine a_iconst (v := 1) C dL_law_1262 (by decide) rfl ?_
  refine a_iadd C dL_law_1263 rfl ?_
  obtain ⟨q1264, h⟩ := h
  refine a_sld C hX hbl hbA dL_law_1264 q1264 rfl ?_
  refine a_aload_n C dL_law_1265 rfl 0 rfl rfl ?_
  refine a_iload C dL_law_1266 4 rfl rfl ?_
  refine a_iconst (v := 2) C dL_law_1268 (by decide) rfl ?_
  refine a_iadd C dL_law_1269 rfl ?_
  obtain ⟨q1270, h⟩ := h
  refine a_sld C hX hbl hbA dL_law_1270 q1270 rfl ?_
  refine a_aload_n C dL_law_1271 rfl 3 rfl rfl ?_
  refine a_callZI C (c_L_soonest l G cy L E hE hl9 u o1 (xs (Int32.toNatClampNeg (x4 + 1))) (xs (Int32.toNatClampNeg (x4 + 2))) o3 h1 h3 _ h) kw_5_41 kw_5_42 kw_1_0 kw_5_43 rfl rfl pd_L_soonest ⟨(Nat.le_of_ble_eq_true rfl), (Nat.le_of_ble_eq_true rfl)⟩ dL_law_1272 rfl (Nat.le_of_ble_eq_true rfl) ⟨by show _ ≤ 601024; omega, by show _ ≤ 7293034; omega⟩ rfl (fun r1272 u1272 h => ?_)
  refine a_istore (lv' := [(0, .ref b), (1, .ref (L o1)), (2, .ref (L o2)), (3, .ref (L o3)), (4, .int x4), (5, .int r1272)]) C dL_law_1275 (by decide) [1, 2, 3, 4, 5, 0] rfl rfl ?_
  refine a_aload_n C dL_law_1277 rfl 2 rfl rfl ?_
  refine a_aload_n C dL_law_1278 rfl 0 rfl rfl ?_
  refine a_iload C dL_law_1279 4 rfl rfl ?_
  refine a_iconst (v := 1) C dL_law_1281 (by decide) rfl ?_
  refine a_iadd C dL_law_1282 rfl ?_
  obtain ⟨q1283, h⟩ := h
  refine a_sld C hX hbl hbA dL_law_1283 q1283 rfl ?_
  refine a_aload_n C dL_law_1284 rfl 0 rfl rfl ?_
  refine a_iload C dL_law_1285 4 rfl rfl ?_
  refine a_iconst (v := 2) C dL_law_1287 (by decide) rfl ?_
  refine a_iadd C dL_law_1288 rfl ?_
  obtain ⟨q1289, h⟩ := h
  refine a_sld C hX hbl hbA dL_law_1289 q1289 rfl ?_
  refine a_callVI C (c_X11_soonest l G cy L E hE u1272 o2 (xs (Int32.toNatClampNeg (x4 + 1))) (xs (Int32.toNatClampNeg (x4 + 2))) h2 _ h) h2 rfl (by decide) kw_7_136 kw_7_137 kw_7_138 kw_1_12 kw_7_139 rfl rfl pd_X11_soonest ⟨(Nat.le_of_ble_eq_true rfl), (Nat.le_of_ble_eq_true rfl)⟩ dL_law_1290 rfl (Nat.le_of_ble_eq_true rfl) ⟨by show _ ≤ 601024; omega, by show _ ≤ 7293034; omega⟩ rfl (fun r1290 u1290 h => ?_)
  refine a_istore (lv' := [(0, .ref b), (1, .ref (L o1)), (2, .ref (L o2)), (3, .ref (L o3)), (4, .int x4), (5, .int r1272), (6, .int r1290)]) C dL_law_1293 (by decide) [1, 2, 3, 4, 5, 6, 0] rfl rfl ?_
  refine a_aload_n C dL_law_1295 rfl 2 rfl rfl ?_
  refine a_callVI C (c_X11_thrown l G cy L E hE u1290 o2 h2 _ h) h2 rfl (by decide) kw_6_86 kw_6_87 kw_6_88 kw_1_12 kw_6_89 rfl rfl pd_X11_thrown ⟨(Nat.le_of_ble_eq_true rfl), (Nat.le_of_ble_eq_true rfl)⟩ dL_law_1296 rfl (Nat.le_of_ble_eq_true rfl) ⟨by show _ ≤ 601024; omega, by show _ ≤ 7293034; omega⟩ rfl (fun r1296 u1296 h => ?_)
  refine a_iload C dL_law_1299 5 rfl rfl ?_
  refine a_icmp_eq (tgt := 1306) C dL_law_1301 (by decide) rfl (fun hc => ?_) (fun hc => ?_)
  · replace h := h.1 hc
    refine a_iload C dL_law_1306 5 rfl rfl ?_
    refine a_if_ne (tgt := 1323) C dL_law_1308 (by decide) rfl (fun hc => ?_) (fun hc => ?_)
    · replace h := h.2 hc
      refine a_goto (tgt := 1943) C dL_law_1323 (by decide) ?_
      refine a_sub (lv' := [(0, .ref b), (1, .ref (L o1)), (2, .ref (L o2)), (3, .ref (L o3)), (4, .int x4)]) [0, 1, 2, 3, 4] rfl ?_
      refine a_wid (k := 601024 - 4 * n) (n := 7293034 - 24 * n) (by omega) (by omega) ?_
      exact hk u1296 h
    · replace h := h.1 hc
      refine a_aload_n C dL_law_1311 rfl 3 rfl rfl ?_
      refine a_iconst (v := 0) C dL_law_1312 (by decide) rfl ?_
      obtain ⟨q1313, h⟩ := h
      refine a_lald C dL_law_1313 h3 n3 q1313 rfl ?_
      refine a_iload C dL_law_1314 6 rfl rfl ?_
      refine a_i2l C dL_law_1316 rfl ?_
      refine a_lcmp C dL_law_1317 rfl ?_
      refine a_if_eq (tgt := 1323) C dL_law_1318 (by decide) rfl (fun hc => ?_) (fun hc => ?_)
      · replace h := h.1 hc
        refine a_goto (tgt := 1943) C dL_law_1323 (by decide) ?_
        refine a_sub (lv' := [(0, .ref b), (1, .ref (L o1)), (2, .ref (L o2)), (3, .ref (L o3)), (4, .int x4)]) [0, 1, 2, 3, 4] rfl ?_
        refine a_wid (k := 601024 - 4 * n) (n := 7293034 - 24 * n) (by omega) (by omega) ?_
        exact hk u1296 h
      · replace h := h.2 hc
        exact h.elim
  · replace h := h.2 hc
    exact h.elim
def wp_case_24 (E : ms_En) (Ln : Nat) (xs : Nat → Int32) (o1 o2 o3 : Nat) (x4 : Int32) (k : ms_St → Prop) (u : ms_St) : Prop := vp_in (x4 + 1) Ln ∧ (vp_in (x4 + 2) Ln ∧ (vp_in (x4 + 3) Ln ∧ (wp_L_soonestOrder E u o1 (xs (Int32.toNatClampNeg (x4 + 1))) (xs (Int32.toNatClampNeg (x4 + 2))) (xs (Int32.toNatClampNeg (x4 + 3))) o3 (fun r1346 u1346 => vp_in (x4 + 1) Ln ∧ (vp_in (x4 + 2) Ln ∧ (vp_in (x4 + 3) Ln ∧ (wp_X11_soonestOrder E u1346 o2 (xs (Int32.toNatClampNeg (x4 + 1))) (xs (Int32.toNatClampNeg (x4 + 2))) (xs (Int32.toNatClampNeg (x4 + 3))) (fun r1370 u1370 => wp_X11_thrown E u1370 o2 (fun r1376 u1376 => (r1376 = r1346 → (r1346 = 0 → vp_in 0 1 ∧ (((lg_cmp (ms_J u1376 o3 (Int32.toNatClampNeg 0)) (Int32.toInt64 r1370)) = 0 → k u1376) ∧ (¬ (lg_cmp (ms_J u1376 o3 (Int32.toNatClampNeg 0)) (Int32.toInt64 r1370)) = 0 → False))) ∧ (¬ r1346 = 0 → k u1376)) ∧ (¬ r1376 = r1346 → False))))))))))
set_option maxHeartbeats 4000000 in
set_option maxRecDepth 100000 in
theorem c_case_24 {p : Program} {l : Launch} {e : Env} {s : State} {m : MethodId} {args : Array Value} {below : List Frame} {meth : Method} {c : Code} {G : va_G} {cy : Nat → ClassId} {A : Nat → Prop} {L : Nat → Nat} {E : ms_En} {Q : State → Prop} (C : ms_Cx p m c cL_law 7 s args (Cond.initialized "CensusWalkLaw") "CensusWalkLaw" G cy A) (hl9 : l.stackTraces = false) (hE : ms_WT E) {b Ln : Nat} {xs : Nat → Int32} (hX : va_X b Ln xs s s.heap) (hbl : b < s.heap.size) (hbA : ¬ A b) {o1 o2 o3 : Nat} (h1 : ms_is E o1 10) (h2 : ms_is E o2 11) (h3 : ms_is E o3 14) (n3 : ms_N E o3 = 1) {k : ms_St → Prop} {x4 : Int32} {n : Nat} (hn9 : n ≤ 1000) (hk : ∀ u : ms_St, k u → ms_At p l e room_1 s m args below meth c 7 G cy A L (601024 - 4 * n) (7293034 - 24 * n) Q E u 1943 [(0, .ref b), (1, .ref (L o1)), (2, .ref (L o2)), (3, .ref (L o3)), (4, .int x4)] []) (u : ms_St) (h : wp_case_24 E Ln xs o1 o2 o3 x4 k u) : ms_At p l e room_1 s m args below meth c 7 G cy A L (601024 - 4 * (n + 1)) (7293034 - 24 * (n + 1)) Q E u 1326 [(0, .ref b), (1, .ref (L o1)), (2, .ref (L o2)), (3, .ref (L o3)), (4, .int x4)] [] := by
  unfold wp_case_24 at h
  refine a_aload_n C dL_law_1326 rfl 1 rfl rfl ?_
  refine a_aload_n C dL_law_1327 rfl 0 rfl rfl ?_
  refine a_iload C dL_law_1328 4 rfl rfl ?_
  refine a_iconst (v := 1) C dL_law_1330 (by decide) rfl ?_
  refine a_iadd C dL_law_1331 rfl ?_
  obtain ⟨q1332, h⟩ := h
  refine a_sld C hX hbl hbA dL_law_1332 q1332 rfl ?_
  refine a_aload_n C dL_law_1333 rfl 0 rfl rfl ?_
  refine a_iload C dL_law_1334 4 rfl rfl ?_
  refine a_iconst (v := 2) C dL_law_1336 (by decide) rfl ?_
  refine a_iadd C dL_law_1337 rfl ?_
  obtain ⟨q1338, h⟩ := h
  refine a_sld C hX hbl hbA dL_law_1338 q1338 rfl ?_
  refine a_aload_n C dL_law_1339 rfl 0 rfl rfl ?_
  refine a_iload C dL_law_1340 4 rfl rfl ?_
  refine a_iconst (v := 3) C dL_law_1342 (by decide) rfl ?_
  refine a_iadd C dL_law_1343 rfl ?_
  obtain ⟨q1344, h⟩ := h
  refine a_sld C hX hbl hbA dL_law_1344 q1344 rfl ?_
  refine a_aload_n C dL_law_1345 rfl 3 rfl rfl ?_
  refine a_callZI C (c_L_soonestOrder l G cy L E hE hl9 u o1 (xs (Int32.toNatClampNeg (x4 + 1))) (xs (Int32.toNatClampNeg (x4 + 2))) (xs (Int32.toNatClampNeg (x4 + 3))) o3 h1 h3 _ h) kw_5_97 kw_5_98 kw_1_0 kw_5_99 rfl rfl pd_L_soonestOrder ⟨(Nat.le_of_ble_eq_true rfl), (Nat.le_of_ble_eq_true rfl)⟩ dL_law_1346 rfl (Nat.le_of_ble_eq_true rfl) ⟨by show _ ≤ 601024; omega, by show _ ≤ 7293034; omega⟩ rfl (fun r1346 u1346 h => ?_)
  refine a_istore (lv' := [(0, .ref b), (1, .ref (L o1)), (2, .ref (L o2)), (3, .ref (L o3)), (4, .int x4), (5, .int r1346)]) C dL_law_1349 (by decide) [1, 2, 3, 4, 5, 0] rfl rfl ?_
  refine a_aload_n C dL_law_1351 rfl 2 rfl rfl ?_
  refine a_aload_n C dL_law_1352 rfl 0 rfl rfl ?_
  refine a_iload C dL_law_1353 4 rfl rfl ?_
  refine a_iconst (v := 1) C dL_law_1355 (by decide) rfl ?_
  refine a_iadd C dL_law_1356 rfl ?_
  obtain ⟨q1357, h⟩ := h
  refine a_sld C hX hbl hbA dL_law_1357 q1357 rfl ?_
  refine a_aload_n C dL_law_1358 rfl 0 rfl rfl ?_
  refine a_iload C dL_law_1359 4 rfl rfl ?_
  refine a_iconst (v := 2) C dL_law_1361 (by decide) rfl ?_
  refine a_iadd C dL_law_1362 rfl ?_
  obtain ⟨q1363, h⟩ := h
  refine a_sld C hX hbl hbA dL_law_1363 q1363 rfl ?_
  refine a_aload_n C dL_law_1364 rfl 0 rfl rfl ?_
  refine a_iload C dL_law_1365 4 rfl rfl ?_
  refine a_iconst (v := 3) C dL_law_1367 (by decide) rfl ?_
  refine a_iadd C dL_law_1368 rfl ?_
  obtain ⟨q1369, h⟩ := h
  refine a_sld C hX hbl hbA dL_law_1369 q1369 rfl ?_
  refine a_callVI C (c_X11_soonestOrder l G cy L E hE u1346 o2 (xs (Int32.toNatClampNeg (x4 + 1))) (xs (Int32.toNatClampNeg (x4 + 2))) (xs (Int32.toNatClampNeg (x4 + 3))) h2 _ h) h2 rfl (by decide) kw_7_167 kw_7_168 kw_7_169 kw_1_12 kw_7_170 rfl rfl pd_X11_soonestOrder ⟨(Nat.le_of_ble_eq_true rfl), (Nat.le_of_ble_eq_true rfl)⟩ dL_law_1370 rfl (Nat.le_of_ble_eq_true rfl) ⟨by show _ ≤ 601024; omega, by show _ ≤ 7293034; omega⟩ rfl (fun r1370 u1370 h => ?_)
  refine a_istore (lv' := [(0, .ref b), (1, .ref (L o1)), (2, .ref (L o2)), (3, .ref (L o3)), (4, .int x4), (5, .int r1346), (6, .int r1370)]) C dL_law_1373 (by decide) [1, 2, 3, 4, 5, 6, 0] rfl rfl ?_
  refine a_aload_n C dL_law_1375 rfl 2 rfl rfl ?_
  refine a_callVI C (c_X11_thrown l G cy L E hE u1370 o2 h2 _ h) h2 rfl (by decide) kw_6_86 kw_6_87 kw_6_88 kw_1_12 kw_6_89 rfl rfl pd_X11_thrown ⟨(Nat.le_of_ble_eq_true rfl), (Nat.le_of_ble_eq_true rfl)⟩ dL_law_1376 rfl (Nat.le_of_ble_eq_true rfl) ⟨by show _ ≤ 601024; omega, by show _ ≤ 7293034; omega⟩ rfl (fun r1376 u1376 h => ?_)
  refine a_iload C dL_law_1379 5 rfl rfl ?_
  refine a_icmp_eq (tgt := 1386) C dL_law_1381 (by decide) rfl (fun hc => ?_) (fun hc => ?_)
  · replace h := h.1 hc
    refine a_iload C dL_law_1386 5 rfl rfl ?_
    refine a_if_ne (tgt := 1403) C dL_law_1388 (by decide) rfl (fun hc => ?_) (fun hc => ?_)
    · replace h := h.2 hc
      refine a_goto (tgt := 1943) C dL_law_1403 (by decide) ?_
      refine a_sub (lv' := [(0, .ref b), (1, .ref (L o1)), (2, .ref (L o2)), (3, .ref (L o3)), (4, .int x4)]) [0, 1, 2, 3, 4] rfl ?_
      refine a_wid (k := 601024 - 4 * n) (n := 7293034 - 24 * n) (by omega) (by omega) ?_
      exact hk u1376 h
    · replace h := h.1 hc
      refine a_aload_n C dL_law_1391 rfl 3 rfl rfl ?_
      refine a_iconst (v := 0) C dL_law_1392 (by decide) rfl ?_
      obtain ⟨q1393, h⟩ := h
      refine a_lald C dL_law_1393 h3 n3 q1393 rfl ?_
      refine a_iload C dL_law_1394 6 rfl rfl ?_
      refine a_i2l C dL_law_1396 rfl ?_
      refine a_lcmp C dL_law_1397 rfl ?_
      refine a_if_eq (tgt := 1403) C dL_law_1398 (by decide) rfl (fun hc => ?_) (fun hc => ?_)
      · replace h := h.1 hc
        refine a_goto (tgt := 1943) C dL_law_1403 (by decide) ?_
        refine a_sub (lv' := [(0, .ref b), (1, .ref (L o1)), (2, .ref (L o2)), (3, .ref (L o3)), (4, .int x4)]) [0, 1, 2, 3, 4] rfl ?_
        refine a_wid (k := 601024 - 4 * n) (n := 7293034 - 24 * n) (by omega) (by omega) ?_
        exact hk u1376 h
      · replace h := h.2 hc
        exact h.elim
  · replace h := h.2 hc
    exact h.elim
def wp_case_25 (E : ms_En) (Ln : Nat) (xs : Nat → Int32) (o1 o2 o3 : Nat) (x4 : Int32) (k : ms_St → Prop) (u : ms_St) : Prop := vp_in (x4 + 1) Ln ∧ (wp_L_division E u o1 (xs (Int32.toNatClampNeg (x4 + 1))) o3 (fun r1414 u1414 => vp_in (x4 + 1) Ln ∧ (wp_X11_division E u1414 o2 (xs (Int32.toNatClampNeg (x4 + 1))) (fun r1426 u1426 => wp_X11_thrown E u1426 o2 (fun r1432 u1432 => (r1432 = r1414 → (r1414 = 0 → vp_in 0 1 ∧ (((lg_cmp (ms_J u1432 o3 (Int32.toNatClampNeg 0)) (Int32.toInt64 r1426)) = 0 → k u1432) ∧ (¬ (lg_cmp (ms_J u1432 o3 (Int32.toNatClampNeg 0)) (Int32.toInt64 r1426)) = 0 → False))) ∧ (¬ r1414 = 0 → k u1432)) ∧ (¬ r1432 = r1414 → False))))))
set_option maxHeartbeats 4000000 in
set_option maxRecDepth 100000 in
theorem c_case_25 {p : Program} {l : Launch} {e : Env} {s : State} {m : MethodId} {args : Array Value} {below : List Frame} {meth : Method} {c : Code} {G : va_G} {cy : Nat → ClassId} {A : Nat → Prop} {L : Nat → Nat} {E : ms_En} {Q : State → Prop} (C : ms_Cx p m c cL_law 7 s args (Cond.initialized "CensusWalkLaw") "CensusWalkLaw" G cy A) (hl9 : l.stackTraces = false) (hE : ms_WT E) {b Ln : Nat} {xs : Nat → Int32} (hX : va_X b Ln xs s s.heap) (hbl : b < s.heap.size) (hbA : ¬ A b) {o1 o2 o3 : Nat} (h1 : ms_is E o1 10) (h2 : ms_is E o2 11) (h3 : ms_is E o3 14) (n3 : ms_N E o3 = 1) {k : ms_St → Prop} {x4 : Int32} {n : Nat} (hn9 : n ≤ 1000) (hk : ∀ u : ms_St, k u → ms_At p l e room_1 s m args below meth c 7 G cy A L (601024 - 4 * n) (7293034 - 24 * n) Q E u 1943 [(0, .ref b), (1, .ref (L o1)), (2, .ref (L o2)), (3, .ref (L o3)), (4, .int x4)] []) (u : ms_St) (h : wp_case_25 E Ln xs o1 o2 o3 x4 k u) : ms_At p l e room_1 s m args below meth c 7 G cy A L (601024 - 4 * (n + 1)) (7293034 - 24 * (n + 1)) Q E u 1406 [(0, .ref b), (1, .ref (L o1)), (2, .ref (L o2)), (3, .ref (L o3)), (4, .int x4)] [] := by
  unfold wp_case_25 at h
  refine a_aload_n C dL_law_1406 rfl 1 rfl rfl ?_
  refine a_aload_n C dL_law_1407 rfl 0 rfl rfl ?_
  refine a_iload C dL_law_1408 4 rfl rfl ?_
  refine a_iconst (v := 1) C dL_law_1410 (by decide) rfl ?_
  refine a_iadd C dL_law_1411 rfl ?_
  obtain ⟨q1412, h⟩ := h
  refine a_sld C hX hbl hbA dL_law_1412 q1412 rfl ?_
  refine a_aload_n C dL_law_1413 rfl 3 rfl rfl ?_
  refine a_callZI C (c_L_division l G cy L E hE hl9 u o1 (xs (Int32.toNatClampNeg (x4 + 1))) o3 h1 h3 _ h) kw_5_129 kw_5_130 kw_1_0 kw_5_131 rfl rfl pd_L_division ⟨(Nat.le_of_ble_eq_true rfl), (Nat.le_of_ble_eq_true rfl)⟩ dL_law_1414 rfl (Nat.le_of_ble_eq_true rfl) ⟨by show _ ≤ 601024; omega, by show _ ≤ 7293034; omega⟩ rfl (fun r1414 u1414 h => ?_)
  refine a_istore (lv' := [(0, .ref b), (1, .ref (L o1)), (2, .ref (L o2)), (3, .ref (L o3)), (4, .int x4), (5, .int r1414)]) C dL_law_1417 (by decide) [1, 2, 3, 4, 5, 0] rfl rfl ?_
  refine a_aload_n C dL_law_1419 rfl 2 rfl rfl ?_
  refine a_aload_n C dL_law_1420 rfl 0 rfl rfl ?_
  refine a_iload C dL_law_1421 4 rfl rfl ?_
  refine a_iconst (v := 1) C dL_law_1423 (by decide) rfl ?_
  refine a_iadd C dL_law_1424 rfl ?_
  obtain ⟨q1425, h⟩ := h
  refine a_sld C hX hbl hbA dL_law_1425 q1425 rfl ?_
  refine a_callVI C (c_X11_division l G cy L E hE u1414 o2 (xs (Int32.toNatClampNeg (x4 + 1))) h2 _ h) h2 rfl (by decide) kw_7_175 kw_7_176 kw_7_177 kw_1_12 kw_7_178 rfl rfl pd_X11_division ⟨(Nat.le_of_ble_eq_true rfl), (Nat.le_of_ble_eq_true rfl)⟩ dL_law_1426 rfl (Nat.le_of_ble_eq_true rfl) ⟨by show _ ≤ 601024; omega, by show _ ≤ 7293034; omega⟩ rfl (fun r1426 u1426 h => ?_)
  refine a_istore (lv' := [(0, .ref b), (1, .ref (L o1)), (2, .ref (L o2)), (3, .ref (L o3)), (4, .int x4), (5, .int r1414), (6, .int r1426)]) C dL_law_1429 (by decide) [1, 2, 3, 4, 5, 6, 0] rfl rfl ?_
  refine a_aload_n C dL_law_1431 rfl 2 rfl rfl ?_
  refine a_callVI C (c_X11_thrown l G cy L E hE u1426 o2 h2 _ h) h2 rfl (by decide) kw_6_86 kw_6_87 kw_6_88 kw_1_12 kw_6_89 rfl rfl pd_X11_thrown ⟨(Nat.le_of_ble_eq_true rfl), (Nat.le_of_ble_eq_true rfl)⟩ dL_law_1432 rfl (Nat.le_of_ble_eq_true rfl) ⟨by show _ ≤ 601024; omega, by show _ ≤ 7293034; omega⟩ rfl (fun r1432 u1432 h => ?_)
  refine a_iload C dL_law_1435 5 rfl rfl ?_
  refine a_icmp_eq (tgt := 1442) C dL_law_1437 (by decide) rfl (fun hc => ?_) (fun hc => ?_)
  · replace h := h.1 hc
    refine a_iload C dL_law_1442 5 rfl rfl ?_
    refine a_if_ne (tgt := 1459) C dL_law_1444 (by decide) rfl (fun hc => ?_) (fun hc => ?_)
    · replace h := h.2 hc
      refine a_goto (tgt := 1943) C dL_law_1459 (by decide) ?_
      refine a_sub (lv' := [(0, .ref b), (1, .ref (L o1)), (2, .ref (L o2)), (3, .ref (L o3)), (4, .int x4)]) [0, 1, 2, 3, 4] rfl ?_
      refine a_wid (k := 601024 - 4 * n) (n := 7293034 - 24 * n) (by omega) (by omega) ?_
      exact hk u1432 h
    · replace h := h.1 hc
      refine a_aload_n C dL_law_1447 rfl 3 rfl rfl ?_
      refine a_iconst (v := 0) C dL_law_1448 (by decide) rfl ?_
      obtain ⟨q1449, h⟩ := h
      refine a_lald C dL_law_1449 h3 n3 q1449 rfl ?_
      refine a_iload C dL_law_1450 6 rfl rfl ?_
      refine a_i2l C dL_law_1452 rfl ?_
      refine a_lcmp C dL_law_1453 rfl ?_
      refine a_if_eq (tgt := 1459) C dL_law_1454 (by decide) rfl (fun hc => ?_) (fun hc => ?_)
      · replace h := h.1 hc
        refine a_goto (tgt := 1943) C dL_law_1459 (by decide) ?_
        refine a_sub (lv' := [(0, .ref b), (1, .ref (L o1)), (2, .ref (L o2)), (3, .ref (L o3)), (4, .int x4)]) [0, 1, 2, 3, 4] rfl ?_
        refine a_wid (k := 601024 - 4 * n) (n := 7293034 - 24 * n) (by omega) (by omega) ?_
        exact hk u1432 h
      · replace h := h.2 hc
        exact h.elim
  · replace h := h.2 hc
    exact h.elim
def wp_case_26 (E : ms_En) (Ln : Nat) (xs : Nat → Int32) (o1 o2 o3 : Nat) (x4 : Int32) (k : ms_St → Prop) (u : ms_St) : Prop := vp_in (x4 + 1) Ln ∧ (vp_in (x4 + 2) Ln ∧ (wp_L_walkerOf E u o1 (xs (Int32.toNatClampNeg (x4 + 1))) (xs (Int32.toNatClampNeg (x4 + 2))) o3 (fun r1476 u1476 => vp_in (x4 + 1) Ln ∧ (vp_in (x4 + 2) Ln ∧ (wp_X11_walkerOf E u1476 o2 (xs (Int32.toNatClampNeg (x4 + 1))) (xs (Int32.toNatClampNeg (x4 + 2))) (fun r1494 u1494 => wp_X11_thrown E u1494 o2 (fun r1500 u1500 => (r1500 = r1476 → (r1476 = 0 → vp_in 0 1 ∧ (((lg_cmp (ms_J u1500 o3 (Int32.toNatClampNeg 0)) (Int32.toInt64 r1494)) = 0 → k u1500) ∧ (¬ (lg_cmp (ms_J u1500 o3 (Int32.toNatClampNeg 0)) (Int32.toInt64 r1494)) = 0 → False))) ∧ (¬ r1476 = 0 → k u1500)) ∧ (¬ r1500 = r1476 → False))))))))
set_option maxHeartbeats 4000000 in
set_option maxRecDepth 100000 in
theorem c_case_26 {p : Program} {l : Launch} {e : Env} {s : State} {m : MethodId} {args : Array Value} {below : List Frame} {meth : Method} {c : Code} {G : va_G} {cy : Nat → ClassId} {A : Nat → Prop} {L : Nat → Nat} {E : ms_En} {Q : State → Prop} (C : ms_Cx p m c cL_law 7 s args (Cond.initialized "CensusWalkLaw") "CensusWalkLaw" G cy A) (hl9 : l.stackTraces = false) (hE : ms_WT E) {b Ln : Nat} {xs : Nat → Int32} (hX : va_X b Ln xs s s.heap) (hbl : b < s.heap.size) (hbA : ¬ A b) {o1 o2 o3 : Nat} (h1 : ms_is E o1 10) (h2 : ms_is E o2 11) (h3 : ms_is E o3 14) (n3 : ms_N E o3 = 1) {k : ms_St → Prop} {x4 : Int32} {n : Nat} (hn9 : n ≤ 1000) (hk : ∀ u : ms_St, k u → ms_At p l e room_1 s m args below meth c 7 G cy A L (601024 - 4 * n) (7293034 - 24 * n) Q E u 1943 [(0, .ref b), (1, .ref (L o1)), (2, .ref (L o2)), (3, .ref (L o3)), (4, .int x4)] []) (u : ms_St) (h : wp_case_26 E Ln xs o1 o2 o3 x4 k u) : ms_At p l e room_1 s m args below meth c 7 G cy A L (601024 - 4 * (n + 1)) (7293034 - 24 * (n + 1)) Q E u 1462 [(0, .ref b), (1, .ref (L o1)), (2, .ref (L o2)), (3, .ref (L o3)), (4, .int x4)] [] := by
  unfold wp_case_26 at h
  refine a_aload_n C dL_law_1462 rfl 1 rfl rfl ?_
  refine a_aload_n C dL_law_1463 rfl 0 rfl rfl ?_
  refine a_iload C dL_law_1464 4 rfl rfl ?_
  refine a_iconst (v := 1) C dL_law_1466 (by decide) rfl ?_
  refine a_iadd C dL_law_1467 rfl ?_
  obtain ⟨q1468, h⟩ := h
  refine a_sld C hX hbl hbA dL_law_1468 q1468 rfl ?_
  refine a_aload_n C dL_law_1469 rfl 0 rfl rfl ?_
  refine a_iload C dL_law_1470 4 rfl rfl ?_
  refine a_iconst (v := 2) C dL_law_1472 (by decide) rfl ?_
  refine a_iadd C dL_law_1473 rfl ?_
  obtain ⟨q1474, h⟩ := h
  refine a_sld C hX hbl hbA dL_law_1474 q1474 rfl ?_
  refine a_aload_n C dL_law_1475 rfl 3 rfl rfl ?_
  refine a_callZI C (c_L_walkerOf l G cy L E hE hl9 u o1 (xs (Int32.toNatClampNeg (x4 + 1))) (xs (Int32.toNatClampNeg (x4 + 2))) o3 h1 h3 _ h) kw_5_149 kw_5_150 kw_1_0 kw_5_151 rfl rfl pd_L_walkerOf ⟨(Nat.le_of_ble_eq_true rfl), (Nat.le_of_ble_eq_true rfl)⟩ dL_law_1476 rfl (Nat.le_of_ble_eq_true rfl) ⟨by show _ ≤ 601024; omega, by show _ ≤ 7293034; omega⟩ rfl (fun r1476 u1476 h => ?_)
  refine a_istore (lv' := [(0, .ref b), (1, .ref (L o1)), (2, .ref (L o2)), (3, .ref (L o3)), (4, .int x4), (5, .int r1476)]) C dL_law_1479 (by decide) [1, 2, 3, 4, 5, 0] rfl rfl ?_
  refine a_aload_n C dL_law_1481 rfl 2 rfl rfl ?_
  refine a_aload_n C dL_law_1482 rfl 0 rfl rfl ?_
  refine a_iload C dL_law_1483 4 rfl rfl ?_
  refine a_iconst (v := 1) C dL_law_1485 (by decide) rfl ?_
  refine a_iadd C dL_law_1486 rfl ?_
  obtain ⟨q1487, h⟩ := h
  refine a_sld C hX hbl hbA dL_law_1487 q1487 rfl ?_
  refine a_aload_n C dL_law_1488 rfl 0 rfl rfl ?_
  refine a_iload C dL_law_1489 4 rfl rfl ?_
  refine a_iconst (v := 2) C dL_law_1491 (by decide) rfl ?_
  refine a_iadd C dL_law_1492 rfl ?_
  obtain ⟨q1493, h⟩ := h
  refine a_sld C hX hbl hbA dL_law_1493 q1493 rfl ?_
  refine a_callVI C (c_X11_walkerOf l G cy L E hE u1476 o2 (xs (Int32.toNatClampNeg (x4 + 1))) (xs (Int32.toNatClampNeg (x4 + 2))) h2 _ h) h2 rfl (by decide) kw_7_187 kw_7_188 kw_7_189 kw_1_12 kw_7_190 rfl rfl pd_X11_walkerOf ⟨(Nat.le_of_ble_eq_true rfl), (Nat.le_of_ble_eq_true rfl)⟩ dL_law_1494 rfl (Nat.le_of_ble_eq_true rfl) ⟨by show _ ≤ 601024; omega, by show _ ≤ 7293034; omega⟩ rfl (fun r1494 u1494 h => ?_)
  refine a_istore (lv' := [(0, .ref b), (1, .ref (L o1)), (2, .ref (L o2)), (3, .ref (L o3)), (4, .int x4), (5, .int r1476), (6, .int r1494)]) C dL_law_1497 (by decide) [1, 2, 3, 4, 5, 6, 0] rfl rfl ?_
  refine a_aload_n C dL_law_1499 rfl 2 rfl rfl ?_
  refine a_callVI C (c_X11_thrown l G cy L E hE u1494 o2 h2 _ h) h2 rfl (by decide) kw_6_86 kw_6_87 kw_6_88 kw_1_12 kw_6_89 rfl rfl pd_X11_thrown ⟨(Nat.le_of_ble_eq_true rfl), (Nat.le_of_ble_eq_true rfl)⟩ dL_law_1500 rfl (Nat.le_of_ble_eq_true rfl) ⟨by show _ ≤ 601024; omega, by show _ ≤ 7293034; omega⟩ rfl (fun r1500 u1500 h => ?_)
  refine a_iload C dL_law_1503 5 rfl rfl ?_
  refine a_icmp_eq (tgt := 1510) C dL_law_1505 (by decide) rfl (fun hc => ?_) (fun hc => ?_)
  · replace h := h.1 hc
    refine a_iload C dL_law_1510 5 rfl rfl ?_
    refine a_if_ne (tgt := 1527) C dL_law_1512 (by decide) rfl (fun hc => ?_) (fun hc => ?_)
    · replace h := h.2 hc
      refine a_goto (tgt := 1943) C dL_law_1527 (by decide) ?_
      refine a_sub (lv' := [(0, .ref b), (1, .ref (L o1)), (2, .ref (L o2)), (3, .ref (L o3)), (4, .int x4)]) [0, 1, 2, 3, 4] rfl ?_
      refine a_wid (k := 601024 - 4 * n) (n := 7293034 - 24 * n) (by omega) (by omega) ?_
      exact hk u1500 h
    · replace h := h.1 hc
      refine a_aload_n C dL_law_1515 rfl 3 rfl rfl ?_
      refine a_iconst (v := 0) C dL_law_1516 (by decide) rfl ?_
      obtain ⟨q1517, h⟩ := h
      refine a_lald C dL_law_1517 h3 n3 q1517 rfl ?_
      refine a_iload C dL_law_1518 6 rfl rfl ?_
      refine a_i2l C dL_law_1520 rfl ?_
      refine a_lcmp C dL_law_1521 rfl ?_
      refine a_if_eq (tgt := 1527) C dL_law_1522 (by decide) rfl (fun hc => ?_) (fun hc => ?_)
      · replace h := h.1 hc
        refine a_goto (tgt := 1943) C dL_law_1527 (by decide) ?_
        refine a_sub (lv' := [(0, .ref b), (1, .ref (L o1)), (2, .ref (L o2)), (3, .ref (L o3)), (4, .int x4)]) [0, 1, 2, 3, 4] rfl ?_
        refine a_wid (k := 601024 - 4 * n) (n := 7293034 - 24 * n) (by omega) (by omega) ?_
        exact hk u1500 h
      · replace h := h.2 hc
        exact h.elim
  · replace h := h.2 hc
    exact h.elim
def wp_case_27 (E : ms_En) (Ln : Nat) (xs : Nat → Int32) (o1 o2 o3 : Nat) (x4 : Int32) (k : ms_St → Prop) (u : ms_St) : Prop := vp_in (x4 + 1) Ln ∧ (vp_in (x4 + 2) Ln ∧ (wp_L_plan E u o1 (xs (Int32.toNatClampNeg (x4 + 1))) (xs (Int32.toNatClampNeg (x4 + 2))) o3 (fun r1544 u1544 => vp_in (x4 + 1) Ln ∧ (vp_in (x4 + 2) Ln ∧ (wp_X11_plan E u1544 o2 (xs (Int32.toNatClampNeg (x4 + 1))) (xs (Int32.toNatClampNeg (x4 + 2))) (fun r1562 u1562 => wp_X11_thrown E u1562 o2 (fun r1568 u1568 => (r1568 = r1544 → (r1544 = 0 → vp_in 0 1 ∧ (((lg_cmp (ms_J u1568 o3 (Int32.toNatClampNeg 0)) (Int32.toInt64 r1562)) = 0 → k u1568) ∧ (¬ (lg_cmp (ms_J u1568 o3 (Int32.toNatClampNeg 0)) (Int32.toInt64 r1562)) = 0 → False))) ∧ (¬ r1544 = 0 → k u1568)) ∧ (¬ r1568 = r1544 → False))))))))
set_option maxHeartbeats 4000000 in
set_option maxRecDepth 100000 in
theorem c_case_27 {p : Program} {l : Launch} {e : Env} {s : State} {m : MethodId} {args : Array Value} {below : List Frame} {meth : Method} {c : Code} {G : va_G} {cy : Nat → ClassId} {A : Nat → Prop} {L : Nat → Nat} {E : ms_En} {Q : State → Prop} (C : ms_Cx p m c cL_law 7 s args (Cond.initialized "CensusWalkLaw") "CensusWalkLaw" G cy A) (hl9 : l.stackTraces = false) (hE : ms_WT E) {b Ln : Nat} {xs : Nat → Int32} (hX : va_X b Ln xs s s.heap) (hbl : b < s.heap.size) (hbA : ¬ A b) {o1 o2 o3 : Nat} (h1 : ms_is E o1 10) (h2 : ms_is E o2 11) (h3 : ms_is E o3 14) (n3 : ms_N E o3 = 1) {k : ms_St → Prop} {x4 : Int32} {n : Nat} (hn9 : n ≤ 1000) (hk : ∀ u : ms_St, k u → ms_At p l e room_1 s m args below meth c 7 G cy A L (601024 - 4 * n) (7293034 - 24 * n) Q E u 1943 [(0, .ref b), (1, .ref (L o1)), (2, .ref (L o2)), (3, .ref (L o3)), (4, .int x4)] []) (u : ms_St) (h : wp_case_27 E Ln xs o1 o2 o3 x4 k u) : ms_At p l e room_1 s m args below meth c 7 G cy A L (601024 - 4 * (n + 1)) (7293034 - 24 * (n + 1)) Q E u 1530 [(0, .ref b), (1, .ref (L o1)), (2, .ref (L o2)), (3, .ref (L o3)), (4, .int x4)] [] := by
  unfold wp_case_27 at h
  refine a_aload_n C dL_law_1530 rfl 1 rfl rfl ?_
  refine a_aload_n C dL_law_1531 rfl 0 rfl rfl ?_
  refine a_iload C dL_law_1532 4 rfl rfl ?_
  refine a_iconst (v := 1) C dL_law_1534 (by decide) rfl ?_
  refine a_iadd C dL_law_1535 rfl ?_
  obtain ⟨q1536, h⟩ := h
  refine a_sld C hX hbl hbA dL_law_1536 q1536 rfl ?_
  refine a_aload_n C dL_law_1537 rfl 0 rfl rfl ?_
  refine a_iload C dL_law_1538 4 rfl rfl ?_
  refine a_iconst (v := 2) C dL_law_1540 (by decide) rfl ?_
  refine a_iadd C dL_law_1541 rfl ?_
  obtain ⟨q1542, h⟩ := h
  refine a_sld C hX hbl hbA dL_law_1542 q1542 rfl ?_
  refine a_aload_n C dL_law_1543 rfl 3 rfl rfl ?_
  refine a_callZI C (c_L_plan l G cy L E hE hl9 u o1 (xs (Int32.toNatClampNeg (x4 + 1))) (xs (Int32.toNatClampNeg (x4 + 2))) o3 h1 h3 _ h) kw_5_160 kw_5_161 kw_1_0 kw_5_162 rfl rfl pd_L_plan ⟨(Nat.le_of_ble_eq_true rfl), (Nat.le_of_ble_eq_true rfl)⟩ dL_law_1544 rfl (Nat.le_of_ble_eq_true rfl) ⟨by show _ ≤ 601024; omega, by show _ ≤ 7293034; omega⟩ rfl (fun r1544 u1544 h => ?_)
  refine a_istore (lv' := [(0, .ref b), (1, .ref (L o1)), (2, .ref (L o2)), (3, .ref (L o3)), (4, .int x4), (5, .int r1544)]) C dL_law_1547 (by decide) [1, 2, 3, 4, 5, 0] rfl rfl ?_
  refine a_aload_n C dL_law_1549 rfl 2 rfl rfl ?_
  refine a_aload_n C dL_law_1550 rfl 0 rfl rfl ?_
  refine a_iload C dL_law_1551 4 rfl rfl ?_
  refine a_iconst (v := 1) C dL_law_1553 (by decide) rfl ?_
  refine a_iadd C dL_law_1554 rfl ?_
  obtain ⟨q1555, h⟩ := h
  refine a_sld C hX hbl hbA dL_law_1555 q1555 rfl ?_
  refine a_aload_n C dL_law_1556 rfl 0 rfl rfl ?_
  refine a_iload C dL_law_1557 4 rfl rfl ?_
  refine a_iconst (v := 2) C dL_law_1559 (by decide) rfl ?_
  refine a_iadd C dL_law_1560 rfl ?_
  obtain ⟨q1561, h⟩ := h
  refine a_sld C hX hbl hbA dL_law_1561 q1561 rfl ?_
  refine a_callVI C (c_X11_plan l G cy L E hE u1544 o2 (xs (Int32.toNatClampNeg (x4 + 1))) (xs (Int32.toNatClampNeg (x4 + 2))) h2 _ h) h2 rfl (by decide) kw_7_191 kw_7_192 kw_7_193 kw_1_12 kw_7_194 rfl rfl pd_X11_plan ⟨(Nat.le_of_ble_eq_true rfl), (Nat.le_of_ble_eq_true rfl)⟩ dL_law_1562 rfl (Nat.le_of_ble_eq_true rfl) ⟨by show _ ≤ 601024; omega, by show _ ≤ 7293034; omega⟩ rfl (fun r1562 u1562 h => ?_)
  refine a_istore (lv' := [(0, .ref b), (1, .ref (L o1)), (2, .ref (L o2)), (3, .ref (L o3)), (4, .int x4), (5, .int r1544), (6, .int r1562)]) C dL_law_1565 (by decide) [1, 2, 3, 4, 5, 6, 0] rfl rfl ?_
  refine a_aload_n C dL_law_1567 rfl 2 rfl rfl ?_
  refine a_callVI C (c_X11_thrown l G cy L E hE u1562 o2 h2 _ h) h2 rfl (by decide) kw_6_86 kw_6_87 kw_6_88 kw_1_12 kw_6_89 rfl rfl pd_X11_thrown ⟨(Nat.le_of_ble_eq_true rfl), (Nat.le_of_ble_eq_true rfl)⟩ dL_law_1568 rfl (Nat.le_of_ble_eq_true rfl) ⟨by show _ ≤ 601024; omega, by show _ ≤ 7293034; omega⟩ rfl (fun r1568 u1568 h => ?_)
  refine a_iload C dL_law_1571 5 rfl rfl ?_
  refine a_icmp_eq (tgt := 1578) C dL_law_1573 (by decide) rfl (fun hc => ?_) (fun hc => ?_)
  · replace h := h.1 hc
    refine a_iload C dL_law_1578 5 rfl rfl ?_
    refine a_if_ne (tgt := 1595) C dL_law_1580 (by decide) rfl (fun hc => ?_) (fun hc => ?_)
    · replace h := h.2 hc
      refine a_goto (tgt := 1943) C dL_law_1595 (by decide) ?_
      refine a_sub (lv' := [(0, .ref b), (1, .ref (L o1)), (2, .ref (L o2)), (3, .ref (L o3)), (4, .int x4)]) [0, 1, 2, 3, 4] rfl ?_
      refine a_wid (k := 601024 - 4 * n) (n := 7293034 - 24 * n) (by omega) (by omega) ?_
      exact hk u1568 h
    · replace h := h.1 hc
      refine a_aload_n C dL_law_1583 rfl 3 rfl rfl ?_
      refine a_iconst (v := 0) C dL_law_1584 (by decide) rfl ?_
      obtain ⟨q1585, h⟩ := h
      refine a_lald C dL_law_1585 h3 n3 q1585 rfl ?_
      refine a_iload C dL_law_1586 6 rfl rfl ?_
      refine a_i2l C dL_law_1588 rfl ?_
      refine a_lcmp C dL_law_1589 rfl ?_
      refine a_if_eq (tgt := 1595) C dL_law_1590 (by decide) rfl (fun hc => ?_) (fun hc => ?_)
      · replace h := h.1 hc
        refine a_goto (tgt := 1943) C dL_law_1595 (by decide) ?_
        refine a_sub (lv' := [(0, .ref b), (1, .ref (L o1)), (2, .ref (L o2)), (3, .ref (L o3)), (4, .int x4)]) [0, 1, 2, 3, 4] rfl ?_
        refine a_wid (k := 601024 - 4 * n) (n := 7293034 - 24 * n) (by omega) (by omega) ?_
        exact hk u1568 h
      · replace h := h.2 hc
        exact h.elim
  · replace h := h.2 hc
    exact h.elim
def wp_case_28 (E : ms_En) (Ln : Nat) (xs : Nat → Int32) (o1 o2 o3 : Nat) (x4 : Int32) (k : ms_St → Prop) (u : ms_St) : Prop := vp_in (x4 + 1) Ln ∧ (wp_L_unplan E u o1 (xs (Int32.toNatClampNeg (x4 + 1))) o3 (fun r1606 u1606 => vp_in (x4 + 1) Ln ∧ (wp_X11_unplan E u1606 o2 (xs (Int32.toNatClampNeg (x4 + 1))) (fun r1618 u1618 => wp_X11_thrown E u1618 o2 (fun r1624 u1624 => (r1624 = r1606 → (r1606 = 0 → vp_in 0 1 ∧ (((lg_cmp (ms_J u1624 o3 (Int32.toNatClampNeg 0)) (Int32.toInt64 r1618)) = 0 → k u1624) ∧ (¬ (lg_cmp (ms_J u1624 o3 (Int32.toNatClampNeg 0)) (Int32.toInt64 r1618)) = 0 → False))) ∧ (¬ r1606 = 0 → k u1624)) ∧ (¬ r1624 = r1606 → False))))))
set_option maxHeartbeats 4000000 in
set_option maxRecDepth 100000 in
theorem c_case_28 {p : Program} {l : Launch} {e : Env} {s : State} {m : MethodId} {args : Array Value} {below : List Frame} {meth : Method} {c : Code} {G : va_G} {cy : Nat → ClassId} {A : Nat → Prop} {L : Nat → Nat} {E : ms_En} {Q : State → Prop} (C : ms_Cx p m c cL_law 7 s args (Cond.initialized "CensusWalkLaw") "CensusWalkLaw" G cy A) (hl9 : l.stackTraces = false) (hE : ms_WT E) {b Ln : Nat} {xs : Nat → Int32} (hX : va_X b Ln xs s s.heap) (hbl : b < s.heap.size) (hbA : ¬ A b) {o1 o2 o3 : Nat} (h1 : ms_is E o1 10) (h2 : ms_is E o2 11) (h3 : ms_is E o3 14) (n3 : ms_N E o3 = 1) {k : ms_St → Prop} {x4 : Int32} {n : Nat} (hn9 : n ≤ 1000) (hk : ∀ u : ms_St, k u → ms_At p l e room_1 s m args below meth c 7 G cy A L (601024 - 4 * n) (7293034 - 24 * n) Q E u 1943 [(0, .ref b), (1, .ref (L o1)), (2, .ref (L o2)), (3, .ref (L o3)), (4, .int x4)] []) (u : ms_St) (h : wp_case_28 E Ln xs o1 o2 o3 x4 k u) : ms_At p l e room_1 s m args below meth c 7 G cy A L (601024 - 4 * (n + 1)) (7293034 - 24 * (n + 1)) Q E u 1598 [(0, .ref b), (1, .ref (L o1)), (2, .ref (L o2)), (3, .ref (L o3)), (4, .int x4)] [] := by
  unfold wp_case_28 at h
  refine a_aload_n C dL_law_1598 rfl 1 rfl rfl ?_
  refine a_aload_n C dL_law_1599 rfl 0 rfl rfl ?_
  refine a_iload C dL_law_1600 4 rfl rfl ?_
  refine a_iconst (v := 1) C dL_law_1602 (by decide) rfl ?_
  refine a_iadd C dL_law_1603 rfl ?_
  obtain ⟨q1604, h⟩ := h
  refine a_sld C hX hbl hbA dL_law_1604 q1604 rfl ?_
  refine a_aload_n C dL_law_1605 rfl 3 rfl rfl ?_
  refine a_callZI C (c_L_unplan l G cy L E hE hl9 u o1 (xs (Int32.toNatClampNeg (x4 + 1))) o3 h1 h3 _ h) kw_5_184 kw_5_185 kw_1_0 kw_5_186 rfl rfl pd_L_unplan ⟨(Nat.le_of_ble_eq_true rfl), (Nat.le_of_ble_eq_true rfl)⟩ dL_law_1606 rfl (Nat.le_of_ble_eq_true rfl) ⟨by show _ ≤ 601024; omega, by show _ ≤ 7293034; omega⟩ rfl (fun r1606 u1606 h => ?_)
  refine a_istore (lv' := [(0, .ref b), (1, .ref (L o1)), (2, .ref (L o2)), (3, .ref (L o3)), (4, .int x4), (5, .int r1606)]) C dL_law_1609 (by decide) [1, 2, 3, 4, 5, 0] rfl rfl ?_
  refine a_aload_n C dL_law_1611 rfl 2 rfl rfl ?_
  refine a_aload_n C dL_law_1612 rfl 0 rfl rfl ?_
  refine a_iload C dL_law_1613 4 rfl rfl ?_
  refine a_iconst (v := 1) C dL_law_1615 (by decide) rfl ?_
  refine a_iadd C dL_law_1616 rfl ?_
  obtain ⟨q1617, h⟩ := h
  refine a_sld C hX hbl hbA dL_law_1617 q1617 rfl ?_
  refine a_callVI C (c_X11_unplan l G cy L E hE u1606 o2 (xs (Int32.toNatClampNeg (x4 + 1))) h2 _ h) h2 rfl (by decide) kw_7_195 kw_7_196 kw_7_197 kw_1_12 kw_7_198 rfl rfl pd_X11_unplan ⟨(Nat.le_of_ble_eq_true rfl), (Nat.le_of_ble_eq_true rfl)⟩ dL_law_1618 rfl (Nat.le_of_ble_eq_true rfl) ⟨by show _ ≤ 601024; omega, by show _ ≤ 7293034; omega⟩ rfl (fun r1618 u1618 h => ?_)
  refine a_istore (lv' := [(0, .ref b), (1, .ref (L o1)), (2, .ref (L o2)), (3, .ref (L o3)), (4, .int x4), (5, .int r1606), (6, .int r1618)]) C dL_law_1621 (by decide) [1, 2, 3, 4, 5, 6, 0] rfl rfl ?_
  refine a_aload_n C dL_law_1623 rfl 2 rfl rfl ?_
  refine a_callVI C (c_X11_thrown l G cy L E hE u1618 o2 h2 _ h) h2 rfl (by decide) kw_6_86 kw_6_87 kw_6_88 kw_1_12 kw_6_89 rfl rfl pd_X11_thrown ⟨(Nat.le_of_ble_eq_true rfl), (Nat.le_of_ble_eq_true rfl)⟩ dL_law_1624 rfl (Nat.le_of_ble_eq_true rfl) ⟨by show _ ≤ 601024; omega, by show _ ≤ 7293034; omega⟩ rfl (fun r1624 u1624 h => ?_)
  refine a_iload C dL_law_1627 5 rfl rfl ?_
  refine a_icmp_eq (tgt := 1634) C dL_law_1629 (by decide) rfl (fun hc => ?_) (fun hc => ?_)
  · replace h := h.1 hc
    refine a_iload C dL_law_1634 5 rfl rfl ?_
    refine a_if_ne (tgt := 1651) C dL_law_1636 (by decide) rfl (fun hc => ?_) (fun hc => ?_)
    · replace h := h.2 hc
      refine a_goto (tgt := 1943) C dL_law_1651 (by decide) ?_
      refine a_sub (lv' := [(0, .ref b), (1, .ref (L o1)), (2, .ref (L o2)), (3, .ref (L o3)), (4, .int x4)]) [0, 1, 2, 3, 4] rfl ?_
      refine a_wid (k := 601024 - 4 * n) (n := 7293034 - 24 * n) (by omega) (by omega) ?_
      exact hk u1624 h
    · replace h := h.1 hc
      refine a_aload_n C dL_law_1639 rfl 3 rfl rfl ?_
      refine a_iconst (v := 0) C dL_law_1640 (by decide) rfl ?_
      obtain ⟨q1641, h⟩ := h
      refine a_lald C dL_law_1641 h3 n3 q1641 rfl ?_
      refine a_iload C dL_law_1642 6 rfl rfl ?_
      refine a_i2l C dL_law_1644 rfl ?_
      refine a_lcmp C dL_law_1645 rfl ?_
      refine a_if_eq (tgt := 1651) C dL_law_1646 (by decide) rfl (fun hc => ?_) (fun hc => ?_)
      · replace h := h.1 hc
        refine a_goto (tgt := 1943) C dL_law_1651 (by decide) ?_
        refine a_sub (lv' := [(0, .ref b), (1, .ref (L o1)), (2, .ref (L o2)), (3, .ref (L o3)), (4, .int x4)]) [0, 1, 2, 3, 4] rfl ?_
        refine a_wid (k := 601024 - 4 * n) (n := 7293034 - 24 * n) (by omega) (by omega) ?_
        exact hk u1624 h
      · replace h := h.2 hc
        exact h.elim
  · replace h := h.2 hc
    exact h.elim
def wp_case_29 (E : ms_En) (Ln : Nat) (xs : Nat → Int32) (o1 o2 o3 : Nat) (x4 : Int32) (k : ms_St → Prop) (u : ms_St) : Prop := vp_in (x4 + 1) Ln ∧ (vp_in (x4 + 2) Ln ∧ (vp_in (x4 + 3) Ln ∧ (wp_L_setHours E u o1 (xs (Int32.toNatClampNeg (x4 + 1))) (xs (Int32.toNatClampNeg (x4 + 2))) (xs (Int32.toNatClampNeg (x4 + 3))) o3 (fun r1674 u1674 => vp_in (x4 + 1) Ln ∧ (vp_in (x4 + 2) Ln ∧ (vp_in (x4 + 3) Ln ∧ (wp_X11_setHours E u1674 o2 (xs (Int32.toNatClampNeg (x4 + 1))) (xs (Int32.toNatClampNeg (x4 + 2))) (xs (Int32.toNatClampNeg (x4 + 3))) (fun r1698 u1698 => wp_X11_thrown E u1698 o2 (fun r1704 u1704 => (r1704 = r1674 → (r1674 = 0 → vp_in 0 1 ∧ (((lg_cmp (ms_J u1704 o3 (Int32.toNatClampNeg 0)) (Int32.toInt64 r1698)) = 0 → k u1704) ∧ (¬ (lg_cmp (ms_J u1704 o3 (Int32.toNatClampNeg 0)) (Int32.toInt64 r1698)) = 0 → False))) ∧ (¬ r1674 = 0 → k u1704)) ∧ (¬ r1704 = r1674 → False))))))))))
set_option maxHeartbeats 4000000 in
set_option maxRecDepth 100000 in
theorem c_case_29 {p : Program} {l : Launch} {e : Env} {s : State} {m : MethodId} {args : Array Value} {below : List Frame} {meth : Method} {c : Code} {G : va_G} {cy : Nat → ClassId} {A : Nat → Prop} {L : Nat → Nat} {E : ms_En} {Q : State → Prop} (C : ms_Cx p m c cL_law 7 s args (Cond.initialized "CensusWalkLaw") "CensusWalkLaw" G cy A) (hl9 : l.stackTraces = false) (hE : ms_WT E) {b Ln : Nat} {xs : Nat → Int32} (hX : va_X b Ln xs s s.heap) (hbl : b < s.heap.size) (hbA : ¬ A b) {o1 o2 o3 : Nat} (h1 : ms_is E o1 10) (h2 : ms_is E o2 11) (h3 : ms_is E o3 14) (n3 : ms_N E o3 = 1) {k : ms_St → Prop} {x4 : Int32} {n : Nat} (hn9 : n ≤ 1000) (hk : ∀ u : ms_St, k u → ms_At p l e room_1 s m args below meth c 7 G cy A L (601024 - 4 * n) (7293034 - 24 * n) Q E u 1943 [(0, .ref b), (1, .ref (L o1)), (2, .ref (L o2)), (3, .ref (L o3)), (4, .int x4)] []) (u : ms_St) (h : wp_case_29 E Ln xs o1 o2 o3 x4 k u) : ms_At p l e room_1 s m args below meth c 7 G cy A L (601024 - 4 * (n + 1)) (7293034 - 24 * (n + 1)) Q E u 1654 [(0, .ref b), (1, .ref (L o1)), (2, .ref (L o2)), (3, .ref (L o3)), (4, .int x4)] [] := by
  unfold wp_case_29 at h
  refine a_aload_n C dL_law_1654 rfl 1 rfl rfl ?_
  refine a_aload_n C dL_law_1655 rfl 0 rfl rfl ?_
  refine a_iload C dL_law_1656 4 rfl rfl ?_
  refine a_iconst (v := 1) C dL_law_1658 (by decide) rfl ?_
  refine a_iadd C dL_law_1659 rfl ?_
  obtain ⟨q1660, h⟩ := h
  refine a_sld C hX hbl hbA dL_law_1660 q1660 rfl ?_
  refine a_aload_n C dL_law_1661 rfl 0 rfl rfl ?_
  refine a_iload C dL_law_1662 4 rfl rfl ?_
  refine a_iconst (v := 2) C dL_law_1664 (by decide) rfl ?_
  refine a_iadd C dL_law_1665 rfl ?_
  obtain ⟨q1666, h⟩ := h
  refine a_sld C hX hbl hbA dL_law_1666 q1666 rfl ?_
  refine a_aload_n C dL_law_1667 rfl 0 rfl rfl ?_
  refine a_iload C dL_law_1668 4 rfl rfl ?_
  refine a_iconst (v := 3) C dL_law_1670 (by decide) rfl ?_
  refine a_iadd C dL_law_1671 rfl ?_
  obtain ⟨q1672, h⟩ := h
  refine a_sld C hX hbl hbA dL_law_1672 q1672 rfl ?_
  refine a_aload_n C dL_law_1673 rfl 3 rfl rfl ?_
  refine a_callZI C (c_L_setHours l G cy L E hE hl9 u o1 (xs (Int32.toNatClampNeg (x4 + 1))) (xs (Int32.toNatClampNeg (x4 + 2))) (xs (Int32.toNatClampNeg (x4 + 3))) o3 h1 h3 _ h) kw_5_192 kw_5_193 kw_1_0 kw_5_194 rfl rfl pd_L_setHours ⟨(Nat.le_of_ble_eq_true rfl), (Nat.le_of_ble_eq_true rfl)⟩ dL_law_1674 rfl (Nat.le_of_ble_eq_true rfl) ⟨by show _ ≤ 601024; omega, by show _ ≤ 7293034; omega⟩ rfl (fun r1674 u1674 h => ?_)
  refine a_istore (lv' := [(0, .ref b), (1, .ref (L o1)), (2, .ref (L o2)), (3, .ref (L o3)), (4, .int x4), (5, .int r1674)]) C dL_law_1677 (by decide) [1, 2, 3, 4, 5, 0] rfl rfl ?_
  refine a_aload_n C dL_law_1679 rfl 2 rfl rfl ?_
  refine a_aload_n C dL_law_1680 rfl 0 rfl rfl ?_
  refine a_iload C dL_law_1681 4 rfl rfl ?_
  refine a_iconst (v := 1) C dL_law_1683 (by decide) rfl ?_
  refine a_iadd C dL_law_1684 rfl ?_
  obtain ⟨q1685, h⟩ := h
  refine a_sld C hX hbl hbA dL_law_1685 q1685 rfl ?_
  refine a_aload_n C dL_law_1686 rfl 0 rfl rfl ?_
  refine a_iload C dL_law_1687 4 rfl rfl ?_
  refine a_iconst (v := 2) C dL_law_1689 (by decide) rfl ?_
  refine a_iadd C dL_law_1690 rfl ?_
  obtain ⟨q1691, h⟩ := h
  refine a_sld C hX hbl hbA dL_law_1691 q1691 rfl ?_
  refine a_aload_n C dL_law_1692 rfl 0 rfl rfl ?_
  refine a_iload C dL_law_1693 4 rfl rfl ?_
  refine a_iconst (v := 3) C dL_law_1695 (by decide) rfl ?_
  refine a_iadd C dL_law_1696 rfl ?_
  obtain ⟨q1697, h⟩ := h
  refine a_sld C hX hbl hbA dL_law_1697 q1697 rfl ?_
  refine a_callVI C (c_X11_setHours l G cy L E hE u1674 o2 (xs (Int32.toNatClampNeg (x4 + 1))) (xs (Int32.toNatClampNeg (x4 + 2))) (xs (Int32.toNatClampNeg (x4 + 3))) h2 _ h) h2 rfl (by decide) kw_7_199 kw_7_200 kw_7_201 kw_1_12 kw_7_202 rfl rfl pd_X11_setHours ⟨(Nat.le_of_ble_eq_true rfl), (Nat.le_of_ble_eq_true rfl)⟩ dL_law_1698 rfl (Nat.le_of_ble_eq_true rfl) ⟨by show _ ≤ 601024; omega, by show _ ≤ 7293034; omega⟩ rfl (fun r1698 u1698 h => ?_)
  refine a_istore (lv' := [(0, .ref b), (1, .ref (L o1)), (2, .ref (L o2)), (3, .ref (L o3)), (4, .int x4), (5, .int r1674), (6, .int r1698)]) C dL_law_1701 (by decide) [1, 2, 3, 4, 5, 6, 0] rfl rfl ?_
  refine a_aload_n C dL_law_1703 rfl 2 rfl rfl ?_
  refine a_callVI C (c_X11_thrown l G cy L E hE u1698 o2 h2 _ h) h2 rfl (by decide) kw_6_86 kw_6_87 kw_6_88 kw_1_12 kw_6_89 rfl rfl pd_X11_thrown ⟨(Nat.le_of_ble_eq_true rfl), (Nat.le_of_ble_eq_true rfl)⟩ dL_law_1704 rfl (Nat.le_of_ble_eq_true rfl) ⟨by show _ ≤ 601024; omega, by show _ ≤ 7293034; omega⟩ rfl (fun r1704 u1704 h => ?_)
  refine a_iload C dL_law_1707 5 rfl rfl ?_
  refine a_icmp_eq (tgt := 1714) C dL_law_1709 (by decide) rfl (fun hc => ?_) (fun hc => ?_)
  · replace h := h.1 hc
    refine a_iload C dL_law_1714 5 rfl rfl ?_
    refine a_if_ne (tgt := 1731) C dL_law_1716 (by decide) rfl (fun hc => ?_) (fun hc => ?_)
    · replace h := h.2 hc
      refine a_goto (tgt := 1943) C dL_law_1731 (by decide) ?_
      refine a_sub (lv' := [(0, .ref b), (1, .ref (L o1)), (2, .ref (L o2)), (3, .ref (L o3)), (4, .int x4)]) [0, 1, 2, 3, 4] rfl ?_
      refine a_wid (k := 601024 - 4 * n) (n := 7293034 - 24 * n) (by omega) (by omega) ?_
      exact hk u1704 h
    · replace h := h.1 hc
      refine a_aload_n C dL_law_1719 rfl 3 rfl rfl ?_
      refine a_iconst (v := 0) C dL_law_1720 (by decide) rfl ?_
      obtain ⟨q1721, h⟩ := h
      refine a_lald C dL_law_1721 h3 n3 q1721 rfl ?_
      refine a_iload C dL_law_1722 6 rfl rfl ?_
      refine a_i2l C dL_law_1724 rfl ?_
      refine a_lcmp C dL_law_1725 rfl ?_
      refine a_if_eq (tgt := 1731) C dL_law_1726 (by decide) rfl (fun hc => ?_) (fun hc => ?_)
      · replace h := h.1 hc
        refine a_goto (tgt := 1943) C dL_law_1731 (by decide) ?_
        refine a_sub (lv' := [(0, .ref b), (1, .ref (L o1)), (2, .ref (L o2)), (3, .ref (L o3)), (4, .int x4)]) [0, 1, 2, 3, 4] rfl ?_
        refine a_wid (k := 601024 - 4 * n) (n := 7293034 - 24 * n) (by omega) (by omega) ?_
        exact hk u1704 h
      · replace h := h.2 hc
        exact h.elim
  · replace h := h.2 hc
    exact h.elim
def wp_case_30 (E : ms_En) (Ln : Nat) (xs : Nat → Int32) (o1 o2 o3 : Nat) (x4 : Int32) (k : ms_St → Prop) (u : ms_St) : Prop := vp_in (x4 + 1) Ln ∧ (vp_in (x4 + 2) Ln ∧ (((xs (Int32.toNatClampNeg (x4 + 2))) = 0 → wp_L_setDog E u o1 (xs (Int32.toNatClampNeg (x4 + 1))) 0 o3 (fun r1756 u1756 => vp_in (x4 + 1) Ln ∧ (vp_in (x4 + 2) Ln ∧ (((xs (Int32.toNatClampNeg (x4 + 2))) = 0 → wp_X11_setDog E u1756 o2 (xs (Int32.toNatClampNeg (x4 + 1))) 0 (fun r1782 u1782 => wp_X11_thrown E u1782 o2 (fun r1788 u1788 => (r1788 = r1756 → (r1756 = 0 → vp_in 0 1 ∧ ((r1782 = 0 → ((lg_cmp (ms_J u1788 o3 (Int32.toNatClampNeg 0)) 0) = 0 → k u1788) ∧ (¬ (lg_cmp (ms_J u1788 o3 (Int32.toNatClampNeg 0)) 0) = 0 → False)) ∧ (¬ r1782 = 0 → ((lg_cmp (ms_J u1788 o3 (Int32.toNatClampNeg 0)) 1) = 0 → k u1788) ∧ (¬ (lg_cmp (ms_J u1788 o3 (Int32.toNatClampNeg 0)) 1) = 0 → False)))) ∧ (¬ r1756 = 0 → k u1788)) ∧ (¬ r1788 = r1756 → False)))) ∧ (¬ (xs (Int32.toNatClampNeg (x4 + 2))) = 0 → wp_X11_setDog E u1756 o2 (xs (Int32.toNatClampNeg (x4 + 1))) 1 (fun r1782 u1782 => wp_X11_thrown E u1782 o2 (fun r1788 u1788 => (r1788 = r1756 → (r1756 = 0 → vp_in 0 1 ∧ ((r1782 = 0 → ((lg_cmp (ms_J u1788 o3 (Int32.toNatClampNeg 0)) 0) = 0 → k u1788) ∧ (¬ (lg_cmp (ms_J u1788 o3 (Int32.toNatClampNeg 0)) 0) = 0 → False)) ∧ (¬ r1782 = 0 → ((lg_cmp (ms_J u1788 o3 (Int32.toNatClampNeg 0)) 1) = 0 → k u1788) ∧ (¬ (lg_cmp (ms_J u1788 o3 (Int32.toNatClampNeg 0)) 1) = 0 → False)))) ∧ (¬ r1756 = 0 → k u1788)) ∧ (¬ r1788 = r1756 → False)))))))) ∧ (¬ (xs (Int32.toNatClampNeg (x4 + 2))) = 0 → wp_L_setDog E u o1 (xs (Int32.toNatClampNeg (x4 + 1))) 1 o3 (fun r1756 u1756 => vp_in (x4 + 1) Ln ∧ (vp_in (x4 + 2) Ln ∧ (((xs (Int32.toNatClampNeg (x4 + 2))) = 0 → wp_X11_setDog E u1756 o2 (xs (Int32.toNatClampNeg (x4 + 1))) 0 (fun r1782 u1782 => wp_X11_thrown E u1782 o2 (fun r1788 u1788 => (r1788 = r1756 → (r1756 = 0 → vp_in 0 1 ∧ ((r1782 = 0 → ((lg_cmp (ms_J u1788 o3 (Int32.toNatClampNeg 0)) 0) = 0 → k u1788) ∧ (¬ (lg_cmp (ms_J u1788 o3 (Int32.toNatClampNeg 0)) 0) = 0 → False)) ∧ (¬ r1782 = 0 → ((lg_cmp (ms_J u1788 o3 (Int32.toNatClampNeg 0)) 1) = 0 → k u1788) ∧ (¬ (lg_cmp (ms_J u1788 o3 (Int32.toNatClampNeg 0)) 1) = 0 → False)))) ∧ (¬ r1756 = 0 → k u1788)) ∧ (¬ r1788 = r1756 → False)))) ∧ (¬ (xs (Int32.toNatClampNeg (x4 + 2))) = 0 → wp_X11_setDog E u1756 o2 (xs (Int32.toNatClampNeg (x4 + 1))) 1 (fun r1782 u1782 => wp_X11_thrown E u1782 o2 (fun r1788 u1788 => (r1788 = r1756 → (r1756 = 0 → vp_in 0 1 ∧ ((r1782 = 0 → ((lg_cmp (ms_J u1788 o3 (Int32.toNatClampNeg 0)) 0) = 0 → k u1788) ∧ (¬ (lg_cmp (ms_J u1788 o3 (Int32.toNatClampNeg 0)) 0) = 0 → False)) ∧ (¬ r1782 = 0 → ((lg_cmp (ms_J u1788 o3 (Int32.toNatClampNeg 0)) 1) = 0 → k u1788) ∧ (¬ (lg_cmp (ms_J u1788 o3 (Int32.toNatClampNeg 0)) 1) = 0 → False)))) ∧ (¬ r1756 = 0 → k u1788)) ∧ (¬ r1788 = r1756 → False))))))))))
set_option maxHeartbeats 4000000 in
set_option maxRecDepth 100000 in
theorem c_case_30 {p : Program} {l : Launch} {e : Env} {s : State} {m : MethodId} {args : Array Value} {below : List Frame} {meth : Method} {c : Code} {G : va_G} {cy : Nat → ClassId} {A : Nat → Prop} {L : Nat → Nat} {E : ms_En} {Q : State → Prop} (C : ms_Cx p m c cL_law 7 s args (Cond.initialized "CensusWalkLaw") "CensusWalkLaw" G cy A) (hl9 : l.stackTraces = false) (hE : ms_WT E) {b Ln : Nat} {xs : Nat → Int32} (hX : va_X b Ln xs s s.heap) (hbl : b < s.heap.size) (hbA : ¬ A b) {o1 o2 o3 : Nat} (h1 : ms_is E o1 10) (h2 : ms_is E o2 11) (h3 : ms_is E o3 14) (n3 : ms_N E o3 = 1) {k : ms_St → Prop} {x4 : Int32} {n : Nat} (hn9 : n ≤ 1000) (hk : ∀ u : ms_St, k u → ms_At p l e room_1 s m args below meth c 7 G cy A L (601024 - 4 * n) (7293034 - 24 * n) Q E u 1943 [(0, .ref b), (1, .ref (L o1)), (2, .ref (L o2)), (3, .ref (L o3)), (4, .int x4)] []) (u : ms_St) (h : wp_case_30 E Ln xs o1 o2 o3 x4 k u) : ms_At p l e room_1 s m args below meth c 7 G cy A L (601024 - 4 * (n + 1)) (7293034 - 24 * (n + 1)) Q E u 1734 [(0, .ref b), (1, .ref (L o1)), (2, .ref (L o2)), (3, .ref (L o3)), (4, .int x4)] [] := by
  unfold wp_case_30 at h
  refine a_aload_n C dL_law_1734 rfl 1 rfl rfl ?_
  refine a_aload_n C dL_law_1735 rfl 0 rfl rfl ?_
  refine a_iload C dL_law_1736 4 rfl rfl ?_
  refine a_iconst (v := 1) C dL_law_1738 (by decide) rfl ?_
  refine a_iadd C dL_law_1739 rfl ?_
  obtain ⟨q1740, h⟩ := h
  refine a_sld C hX hbl hbA dL_law_1740 q1740 rfl ?_
  refine a_aload_n C dL_law_1741 rfl 0 rfl rfl ?_
  refine a_iload C dL_law_1742 4 rfl rfl ?_
  refine a_iconst (v := 2) C dL_law_1744 (by decide) rfl ?_
  refine a_iadd C dL_law_1745 rfl ?_
  obtain ⟨q1746, h⟩ := h
  refine a_sld C hX hbl hbA dL_law_1746 q1746 rfl ?_
  refine a_if_eq (tgt := 1754) C dL_law_1747 (by decide) rfl (fun hc => ?_) (fun hc => ?_)
  · replace h := h.1 hc
    refine a_iconst (v := 0) C dL_law_1754 (by decide) rfl ?_
    refine a_aload_n C dL_law_1755 rfl 3 rfl rfl ?_
    refine a_callZI C (c_L_setDog l G cy L E hE hl9 u o1 (xs (Int32.toNatClampNeg (x4 + 1))) 0 o3 h1 h3 _ h) kw_5_200 kw_5_201 kw_1_0 kw_5_202 rfl rfl pd_L_setDog ⟨(Nat.le_of_ble_eq_true rfl), (Nat.le_of_ble_eq_true rfl)⟩ dL_law_1756 rfl (Nat.le_of_ble_eq_true rfl) ⟨by show _ ≤ 601024; omega, by show _ ≤ 7293034; omega⟩ rfl (fun r1756 u1756 h => ?_)
    refine a_istore (lv' := [(0, .ref b), (1, .ref (L o1)), (2, .ref (L o2)), (3, .ref (L o3)), (4, .int x4), (5, .int r1756)]) C dL_law_1759 (by decide) [1, 2, 3, 4, 5, 0] rfl rfl ?_
    refine a_aload_n C dL_law_1761 rfl 2 rfl rfl ?_
    refine a_aload_n C dL_law_1762 rfl 0 rfl rfl ?_
    refine a_iload C dL_law_1763 4 rfl rfl ?_
    refine a_iconst (v := 1) C dL_law_1765 (by decide) rfl ?_
    refine a_iadd C dL_law_1766 rfl ?_
    obtain ⟨q1767, h⟩ := h
    refine a_sld C hX hbl hbA dL_law_1767 q1767 rfl ?_
    refine a_aload_n C dL_law_1768 rfl 0 rfl rfl ?_
    refine a_iload C dL_law_1769 4 rfl rfl ?_
    refine a_iconst (v := 2) C dL_law_1771 (by decide) rfl ?_
    refine a_iadd C dL_law_1772 rfl ?_
    obtain ⟨q1773, h⟩ := h
    refine a_sld C hX hbl hbA dL_law_1773 q1773 rfl ?_
    refine a_if_eq (tgt := 1781) C dL_law_1774 (by decide) rfl (fun hc => ?_) (fun hc => ?_)
    · replace h := h.1 hc
      refine a_iconst (v := 0) C dL_law_1781 (by decide) rfl ?_
      refine a_callVI C (c_X11_setDog l G cy L E hE u1756 o2 (xs (Int32.toNatClampNeg (x4 + 1))) 0 h2 _ h) h2 rfl (by decide) kw_7_203 kw_7_204 kw_7_205 kw_1_12 kw_7_206 rfl rfl pd_X11_setDog ⟨(Nat.le_of_ble_eq_true rfl), (Nat.le_of_ble_eq_true rfl)⟩ dL_law_1782 rfl (Nat.le_of_ble_eq_true rfl) ⟨by show _ ≤ 601024; omega, by show _ ≤ 7293034; omega⟩ rfl (fun r1782 u1782 h => ?_)
      refine a_istore (lv' := [(0, .ref b), (1, .ref (L o1)), (2, .ref (L o2)), (3, .ref (L o3)), (4, .int x4), (5, .int r1756), (6, .int r1782)]) C dL_law_1785 (by decide) [1, 2, 3, 4, 5, 6, 0] rfl rfl ?_
      refine a_aload_n C dL_law_1787 rfl 2 rfl rfl ?_
      refine a_callVI C (c_X11_thrown l G cy L E hE u1782 o2 h2 _ h) h2 rfl (by decide) kw_6_86 kw_6_87 kw_6_88 kw_1_12 kw_6_89 rfl rfl pd_X11_thrown ⟨(Nat.le_of_ble_eq_true rfl), (Nat.le_of_ble_eq_true rfl)⟩ dL_law_1788 rfl (Nat.le_of_ble_eq_true rfl) ⟨by show _ ≤ 601024; omega, by show _ ≤ 7293034; omega⟩ rfl (fun r1788 u1788 h => ?_)
      refine a_iload C dL_law_1791 5 rfl rfl ?_
      refine a_icmp_eq (tgt := 1798) C dL_law_1793 (by decide) rfl (fun hc => ?_) (fun hc => ?_)
      · replace h := h.1 hc
        refine a_iload C dL_law_1798 5 rfl rfl ?_
        refine a_if_ne (tgt := 1822) C dL_law_1800 (by decide) rfl (fun hc => ?_) (fun hc => ?_)
        · replace h := h.2 hc
          refine a_goto (tgt := 1943) C dL_law_1822 (by decide) ?_
          refine a_sub (lv' := [(0, .ref b), (1, .ref (L o1)), (2, .ref (L o2)), (3, .ref (L o3)), (4, .int x4)]) [0, 1, 2, 3, 4] rfl ?_
          refine a_wid (k := 601024 - 4 * n) (n := 7293034 - 24 * n) (by omega) (by omega) ?_
          exact hk u1788 h
        · replace h := h.1 hc
          refine a_aload_n C dL_law_1803 rfl 3 rfl rfl ?_
          refine a_iconst (v := 0) C dL_law_1804 (by decide) rfl ?_
          obtain ⟨q1805, h⟩ := h
          refine a_lald C dL_law_1805 h3 n3 q1805 rfl ?_
          refine a_iload C dL_law_1806 6 rfl rfl ?_
          refine a_if_eq (tgt := 1815) C dL_law_1808 (by decide) rfl (fun hc => ?_) (fun hc => ?_)
          · replace h := h.1 hc
            refine a_lconst (v := 0) C dL_law_1815 (by decide) rfl ?_
            refine a_lcmp C dL_law_1816 rfl ?_
            refine a_if_eq (tgt := 1822) C dL_law_1817 (by decide) rfl (fun hc => ?_) (fun hc => ?_)
            · replace h := h.1 hc
              refine a_goto (tgt := 1943) C dL_law_1822 (by decide) ?_
              refine a_sub (lv' := [(0, .ref b), (1, .ref (L o1)), (2, .ref (L o2)), (3, .ref (L o3)), (4, .int x4)]) [0, 1, 2, 3, 4] rfl ?_
              refine a_wid (k := 601024 - 4 * n) (n := 7293034 - 24 * n) (by omega) (by omega) ?_
              exact hk u1788 h
            · replace h := h.2 hc
              exact h.elim
          · replace h := h.2 hc
            refine a_lconst (v := 1) C dL_law_1811 (by decide) rfl ?_
            refine a_goto (tgt := 1816) C dL_law_1812 (by decide) ?_
            refine a_lcmp C dL_law_1816 rfl ?_
            refine a_if_eq (tgt := 1822) C dL_law_1817 (by decide) rfl (fun hc => ?_) (fun hc => ?_)
            · replace h := h.1 hc
              refine a_goto (tgt := 1943) C dL_law_1822 (by decide) ?_
              refine a_sub (lv' := [(0, .ref b), (1, .ref (L o1)), (2, .ref (L o2)), (3, .ref (L o3)), (4, .int x4)]) [0, 1, 2, 3, 4] rfl ?_
              refine a_wid (k := 601024 - 4 * n) (n := 7293034 - 24 * n) (by omega) (by omega) ?_
              exact hk u1788 h
            · replace h := h.2 hc
              exact h.elim
      · replace h := h.2 hc
        exact h.elim
    · replace h := h.2 hc
      refine a_iconst (v := 1) C dL_law_1777 (by decide) rfl ?_
      refine a_goto (tgt := 1782) C dL_law_1778 (by decide) ?_
      refine a_callVI C (c_X11_setDog l G cy L E hE u1756 o2 (xs (Int32.toNatClampNeg (x4 + 1))) 1 h2 _ h) h2 rfl (by decide) kw_7_203 kw_7_204 kw_7_205 kw_1_12 kw_7_206 rfl rfl pd_X11_setDog ⟨(Nat.le_of_ble_eq_true rfl), (Nat.le_of_ble_eq_true rfl)⟩ dL_law_1782 rfl (Nat.le_of_ble_eq_true rfl) ⟨by show _ ≤ 601024; omega, by show _ ≤ 7293034; omega⟩ rfl (fun r1782 u1782 h => ?_)
      refine a_istore (lv' := [(0, .ref b), (1, .ref (L o1)), (2, .ref (L o2)), (3, .ref (L o3)), (4, .int x4), (5, .int r1756), (6, .int r1782)]) C dL_law_1785 (by decide) [1, 2, 3, 4, 5, 6, 0] rfl rfl ?_
      refine a_aload_n C dL_law_1787 rfl 2 rfl rfl ?_
      refine a_callVI C (c_X11_thrown l G cy L E hE u1782 o2 h2 _ h) h2 rfl (by decide) kw_6_86 kw_6_87 kw_6_88 kw_1_12 kw_6_89 rfl rfl pd_X11_thrown ⟨(Nat.le_of_ble_eq_true rfl), (Nat.le_of_ble_eq_true rfl)⟩ dL_law_1788 rfl (Nat.le_of_ble_eq_true rfl) ⟨by show _ ≤ 601024; omega, by show _ ≤ 7293034; omega⟩ rfl (fun r1788 u1788 h => ?_)
      refine a_iload C dL_law_1791 5 rfl rfl ?_
      refine a_icmp_eq (tgt := 1798) C dL_law_1793 (by decide) rfl (fun hc => ?_) (fun hc => ?_)
      · replace h := h.1 hc
        refine a_iload C dL_law_1798 5 rfl rfl ?_
        refine a_if_ne (tgt := 1822) C dL_law_1800 (by decide) rfl (fun hc => ?_) (fun hc => ?_)
        · replace h := h.2 hc
          refine a_goto (tgt := 1943) C dL_law_1822 (by decide) ?_
          refine a_sub (lv' := [(0, .ref b), (1, .ref (L o1)), (2, .ref (L o2)), (3, .ref (L o3)), (4, .int x4)]) [0, 1, 2, 3, 4] rfl ?_
          refine a_wid (k := 601024 - 4 * n) (n := 7293034 - 24 * n) (by omega) (by omega) ?_
          exact hk u1788 h
        · replace h := h.1 hc
          refine a_aload_n C dL_law_1803 rfl 3 rfl rfl ?_
          refine a_iconst (v := 0) C dL_law_1804 (by decide) rfl ?_
          obtain ⟨q1805, h⟩ := h
          refine a_lald C dL_law_1805 h3 n3 q1805 rfl ?_
          refine a_iload C dL_law_1806 6 rfl rfl ?_
          refine a_if_eq (tgt := 1815) C dL_law_1808 (by decide) rfl (fun hc => ?_) (fun hc => ?_)
          · replace h := h.1 hc
            refine a_lconst (v := 0) C dL_law_1815 (by decide) rfl ?_
            refine a_lcmp C dL_law_1816 rfl ?_
            refine a_if_eq (tgt := 1822) C dL_law_1817 (by decide) rfl (fun hc => ?_) (fun hc => ?_)
            · replace h := h.1 hc
              refine a_goto (tgt := 1943) C dL_law_1822 (by decide) ?_
              refine a_sub (lv' := [(0, .ref b), (1, .ref (L o1)), (2, .ref (L o2)), (3, .ref (L o3)), (4, .int x4)]) [0, 1, 2, 3, 4] rfl ?_
              refine a_wid (k := 601024 - 4 * n) (n := 7293034 - 24 * n) (by omega) (by omega) ?_
              exact hk u1788 h
            · replace h := h.2 hc
              exact h.elim
          · replace h := h.2 hc
            refine a_lconst (v := 1) C dL_law_1811 (by decide) rfl ?_
            refine a_goto (tgt := 1816) C dL_law_1812 (by decide) ?_
            refine a_lcmp C dL_law_1816 rfl ?_
            refine a_if_eq (tgt := 1822) C dL_law_1817 (by decide) rfl (fun hc => ?_) (fun hc => ?_)
            · replace h := h.1 hc
              refine a_goto (tgt := 1943) C dL_law_1822 (by decide) ?_
              refine a_sub (lv' := [(0, .ref b), (1, .ref (L o1)), (2, .ref (L o2)), (3, .ref (L o3)), (4, .int x4)]) [0, 1, 2, 3, 4] rfl ?_
              refine a_wid (k := 601024 - 4 * n) (n := 7293034 - 24 * n) (by omega) (by omega) ?_
              exact hk u1788 h
            · replace h := h.2 hc
              exact h.elim
      · replace h := h.2 hc
        exact h.elim
  · replace h := h.2 hc
    refine a_iconst (v := 1) C dL_law_1750 (by decide) rfl ?_
    refine a_goto (tgt := 1755) C dL_law_1751 (by decide) ?_
    refine a_aload_n C dL_law_1755 rfl 3 rfl rfl ?_
    refine a_callZI C (c_L_setDog l G cy L E hE hl9 u o1 (xs (Int32.toNatClampNeg (x4 + 1))) 1 o3 h1 h3 _ h) kw_5_200 kw_5_201 kw_1_0 kw_5_202 rfl rfl pd_L_setDog ⟨(Nat.le_of_ble_eq_true rfl), (Nat.le_of_ble_eq_true rfl)⟩ dL_law_1756 rfl (Nat.le_of_ble_eq_true rfl) ⟨by show _ ≤ 601024; omega, by show _ ≤ 7293034; omega⟩ rfl (fun r1756 u1756 h => ?_)
    refine a_istore (lv' := [(0, .ref b), (1, .ref (L o1)), (2, .ref (L o2)), (3, .ref (L o3)), (4, .int x4), (5, .int r1756)]) C dL_law_1759 (by decide) [1, 2, 3, 4, 5, 0] rfl rfl ?_
    refine a_aload_n C dL_law_1761 rfl 2 rfl rfl ?_
    refine a_aload_n C dL_law_1762 rfl 0 rfl rfl ?_
    refine a_iload C dL_law_1763 4 rfl rfl ?_
    refine a_iconst (v := 1) C dL_law_1765 (by decide) rfl ?_
    refine a_iadd C dL_law_1766 rfl ?_
    obtain ⟨q1767, h⟩ := h
    refine a_sld C hX hbl hbA dL_law_1767 q1767 rfl ?_
    refine a_aload_n C dL_law_1768 rfl 0 rfl rfl ?_
    refine a_iload C dL_law_1769 4 rfl rfl ?_
    refine a_iconst (v := 2) C dL_law_1771 (by decide) rfl ?_
    refine a_iadd C dL_law_1772 rfl ?_
    obtain ⟨q1773, h⟩ := h
    refine a_sld C hX hbl hbA dL_law_1773 q1773 rfl ?_
    refine a_if_eq (tgt := 1781) C dL_law_1774 (by decide) rfl (fun hc => ?_) (fun hc => ?_)
    · replace h := h.1 hc
      refine a_iconst (v := 0) C dL_law_1781 (by decide) rfl ?_
      refine a_callVI C (c_X11_setDog l G cy L E hE u1756 o2 (xs (Int32.toNatClampNeg (x4 + 1))) 0 h2 _ h) h2 rfl (by decide) kw_7_203 kw_7_204 kw_7_205 kw_1_12 kw_7_206 rfl rfl pd_X11_setDog ⟨(Nat.le_of_ble_eq_true rfl), (Nat.le_of_ble_eq_true rfl)⟩ dL_law_1782 rfl (Nat.le_of_ble_eq_true rfl) ⟨by show _ ≤ 601024; omega, by show _ ≤ 7293034; omega⟩ rfl (fun r1782 u1782 h => ?_)
      refine a_istore (lv' := [(0, .ref b), (1, .ref (L o1)), (2, .ref (L o2)), (3, .ref (L o3)), (4, .int x4), (5, .int r1756), (6, .int r1782)]) C dL_law_1785 (by decide) [1, 2, 3, 4, 5, 6, 0] rfl rfl ?_
      refine a_aload_n C dL_law_1787 rfl 2 rfl rfl ?_
      refine a_callVI C (c_X11_thrown l G cy L E hE u1782 o2 h2 _ h) h2 rfl (by decide) kw_6_86 kw_6_87 kw_6_88 kw_1_12 kw_6_89 rfl rfl pd_X11_thrown ⟨(Nat.le_of_ble_eq_true rfl), (Nat.le_of_ble_eq_true rfl)⟩ dL_law_1788 rfl (Nat.le_of_ble_eq_true rfl) ⟨by show _ ≤ 601024; omega, by show _ ≤ 7293034; omega⟩ rfl (fun r1788 u1788 h => ?_)
      refine a_iload C dL_law_1791 5 rfl rfl ?_
      refine a_icmp_eq (tgt := 1798) C dL_law_1793 (by decide) rfl (fun hc => ?_) (fun hc => ?_)
      · replace h := h.1 hc
        refine a_iload C dL_law_1798 5 rfl rfl ?_
        refine a_if_ne (tgt := 1822) C dL_law_1800 (by decide) rfl (fun hc => ?_) (fun hc => ?_)
        · replace h := h.2 hc
          refine a_goto (tgt := 1943) C dL_law_1822 (by decide) ?_
          refine a_sub (lv' := [(0, .ref b), (1, .ref (L o1)), (2, .ref (L o2)), (3, .ref (L o3)), (4, .int x4)]) [0, 1, 2, 3, 4] rfl ?_
          refine a_wid (k := 601024 - 4 * n) (n := 7293034 - 24 * n) (by omega) (by omega) ?_
          exact hk u1788 h
        · replace h := h.1 hc
          refine a_aload_n C dL_law_1803 rfl 3 rfl rfl ?_
          refine a_iconst (v := 0) C dL_law_1804 (by decide) rfl ?_
          obtain ⟨q1805, h⟩ := h
          refine a_lald C dL_law_1805 h3 n3 q1805 rfl ?_
          refine a_iload C dL_law_1806 6 rfl rfl ?_
          refine a_if_eq (tgt := 1815) C dL_law_1808 (by decide) rfl (fun hc => ?_) (fun hc => ?_)
          · replace h := h.1 hc
            refine a_lconst (v := 0) C dL_law_1815 (by decide) rfl ?_
            refine a_lcmp C dL_law_1816 rfl ?_
            refine a_if_eq (tgt := 1822) C dL_law_1817 (by decide) rfl (fun hc => ?_) (fun hc => ?_)
            · replace h := h.1 hc
              refine a_goto (tgt := 1943) C dL_law_1822 (by decide) ?_
              refine a_sub (lv' := [(0, .ref b), (1, .ref (L o1)), (2, .ref (L o2)), (3, .ref (L o3)), (4, .int x4)]) [0, 1, 2, 3, 4] rfl ?_
              refine a_wid (k := 601024 - 4 * n) (n := 7293034 - 24 * n) (by omega) (by omega) ?_
              exact hk u1788 h
            · replace h := h.2 hc
              exact h.elim
          · replace h := h.2 hc
            refine a_lconst (v := 1) C dL_law_1811 (by decide) rfl ?_
            refine a_goto (tgt := 1816) C dL_law_1812 (by decide) ?_
            refine a_lcmp C dL_law_1816 rfl ?_
            refine a_if_eq (tgt := 1822) C dL_law_1817 (by decide) rfl (fun hc => ?_) (fun hc => ?_)
            · replace h := h.1 hc
              refine a_goto (tgt := 1943) C dL_law_1822 (by decide) ?_
              refine a_sub (lv' := [(0, .ref b), (1, .ref (L o1)), (2, .ref (L o2)), (3, .ref (L o3)), (4, .int x4)]) [0, 1, 2, 3, 4] rfl ?_
              refine a_wid (k := 601024 - 4 * n) (n := 7293034 - 24 * n) (by omega) (by omega) ?_
              exact hk u1788 h
            · replace h := h.2 hc
              exact h.elim
      · replace h := h.2 hc
        exact h.elim
    · replace h := h.2 hc
      refine a_iconst (v := 1) C dL_law_1777 (by decide) rfl ?_
      refine a_goto (tgt := 1782) C dL_law_1778 (by decide) ?_
      refine a_callVI C (c_X11_setDog l G cy L E hE u1756 o2 (xs (Int32.toNatClampNeg (x4 + 1))) 1 h2 _ h) h2 rfl (by decide) kw_7_203 kw_7_204 kw_7_205 kw_1_12 kw_7_206 rfl rfl pd_X11_setDog ⟨(Nat.le_of_ble_eq_true rfl), (Nat.le_of_ble_eq_true rfl)⟩ dL_law_1782 rfl (Nat.le_of_ble_eq_true rfl) ⟨by show _ ≤ 601024; omega, by show _ ≤ 7293034; omega⟩ rfl (fun r1782 u1782 h => ?_)
      refine a_istore (lv' := [(0, .ref b), (1, .ref (L o1)), (2, .ref (L o2)), (3, .ref (L o3)), (4, .int x4), (5, .int r1756), (6, .int r1782)]) C dL_law_1785 (by decide) [1, 2, 3, 4, 5, 6, 0] rfl rfl ?_
      refine a_aload_n C dL_law_1787 rfl 2 rfl rfl ?_
      refine a_callVI C (c_X11_thrown l G cy L E hE u1782 o2 h2 _ h) h2 rfl (by decide) kw_6_86 kw_6_87 kw_6_88 kw_1_12 kw_6_89 rfl rfl pd_X11_thrown ⟨(Nat.le_of_ble_eq_true rfl), (Nat.le_of_ble_eq_true rfl)⟩ dL_law_1788 rfl (Nat.le_of_ble_eq_true rfl) ⟨by show _ ≤ 601024; omega, by show _ ≤ 7293034; omega⟩ rfl (fun r1788 u1788 h => ?_)
      refine a_iload C dL_law_1791 5 rfl rfl ?_
      refine a_icmp_eq (tgt := 1798) C dL_law_1793 (by decide) rfl (fun hc => ?_) (fun hc => ?_)
      · replace h := h.1 hc
        refine a_iload C dL_law_1798 5 rfl rfl ?_
        refine a_if_ne (tgt := 1822) C dL_law_1800 (by decide) rfl (fun hc => ?_) (fun hc => ?_)
        · replace h := h.2 hc
          refine a_goto (tgt := 1943) C dL_law_1822 (by decide) ?_
          refine a_sub (lv' := [(0, .ref b), (1, .ref (L o1)), (2, .ref (L o2)), (3, .ref (L o3)), (4, .int x4)]) [0, 1, 2, 3, 4] rfl ?_
          refine a_wid (k := 601024 - 4 * n) (n := 7293034 - 24 * n) (by omega) (by omega) ?_
          exact hk u1788 h
        · replace h := h.1 hc
          refine a_aload_n C dL_law_1803 rfl 3 rfl rfl ?_
          refine a_iconst (v := 0) C dL_law_1804 (by decide) rfl ?_
          obtain ⟨q1805, h⟩ := h
          refine a_lald C dL_law_1805 h3 n3 q1805 rfl ?_
          refine a_iload C dL_law_1806 6 rfl rfl ?_
          refine a_if_eq (tgt := 1815) C dL_law_1808 (by decide) rfl (fun hc => ?_) (fun hc => ?_)
          · replace h := h.1 hc
            refine a_lconst (v := 0) C dL_law_1815 (by decide) rfl ?_
            refine a_lcmp C dL_law_1816 rfl ?_
            refine a_if_eq (tgt := 1822) C dL_law_1817 (by decide) rfl (fun hc => ?_) (fun hc => ?_)
            · replace h := h.1 hc
              refine a_goto (tgt := 1943) C dL_law_1822 (by decide) ?_
              refine a_sub (lv' := [(0, .ref b), (1, .ref (L o1)), (2, .ref (L o2)), (3, .ref (L o3)), (4, .int x4)]) [0, 1, 2, 3, 4] rfl ?_
              refine a_wid (k := 601024 - 4 * n) (n := 7293034 - 24 * n) (by omega) (by omega) ?_
              exact hk u1788 h
            · replace h := h.2 hc
              exact h.elim
          · replace h := h.2 hc
            refine a_lconst (v := 1) C dL_law_1811 (by decide) rfl ?_
            refine a_goto (tgt := 1816) C dL_law_1812 (by decide) ?_
            refine a_lcmp C dL_law_1816 rfl ?_
            refine a_if_eq (tgt := 1822) C dL_law_1817 (by decide) rfl (fun hc => ?_) (fun hc => ?_)
            · replace h := h.1 hc
              refine a_goto (tgt := 1943) C dL_law_1822 (by decide) ?_
              refine a_sub (lv' := [(0, .ref b), (1, .ref (L o1)), (2, .ref (L o2)), (3, .ref (L o3)), (4, .int x4)]) [0, 1, 2, 3, 4] rfl ?_
              refine a_wid (k := 601024 - 4 * n) (n := 7293034 - 24 * n) (by omega) (by omega) ?_
              exact hk u1788 h
            · replace h := h.2 hc
              exact h.elim
      · replace h := h.2 hc
        exact h.elim
def wp_case_31 (E : ms_En) (Ln : Nat) (xs : Nat → Int32) (o1 o2 o3 : Nat) (x4 : Int32) (k : ms_St → Prop) (u : ms_St) : Prop := vp_in (x4 + 1) Ln ∧ (vp_in (x4 + 2) Ln ∧ (((xs (Int32.toNatClampNeg (x4 + 2))) = 0 → wp_L_setOpen E u o1 (xs (Int32.toNatClampNeg (x4 + 1))) 0 o3 (fun r1847 u1847 => vp_in (x4 + 1) Ln ∧ (vp_in (x4 + 2) Ln ∧ (((xs (Int32.toNatClampNeg (x4 + 2))) = 0 → wp_X11_setOpen E u1847 o2 (xs (Int32.toNatClampNeg (x4 + 1))) 0 (fun r1873 u1873 => wp_X11_thrown E u1873 o2 (fun r1879 u1879 => (r1879 = r1847 → (r1847 = 0 → vp_in 0 1 ∧ ((r1873 = 0 → ((lg_cmp (ms_J u1879 o3 (Int32.toNatClampNeg 0)) 0) = 0 → k u1879) ∧ (¬ (lg_cmp (ms_J u1879 o3 (Int32.toNatClampNeg 0)) 0) = 0 → False)) ∧ (¬ r1873 = 0 → ((lg_cmp (ms_J u1879 o3 (Int32.toNatClampNeg 0)) 1) = 0 → k u1879) ∧ (¬ (lg_cmp (ms_J u1879 o3 (Int32.toNatClampNeg 0)) 1) = 0 → False)))) ∧ (¬ r1847 = 0 → k u1879)) ∧ (¬ r1879 = r1847 → False)))) ∧ (¬ (xs (Int32.toNatClampNeg (x4 + 2))) = 0 → wp_X11_setOpen E u1847 o2 (xs (Int32.toNatClampNeg (x4 + 1))) 1 (fun r1873 u1873 => wp_X11_thrown E u1873 o2 (fun r1879 u1879 => (r1879 = r1847 → (r1847 = 0 → vp_in 0 1 ∧ ((r1873 = 0 → ((lg_cmp (ms_J u1879 o3 (Int32.toNatClampNeg 0)) 0) = 0 → k u1879) ∧ (¬ (lg_cmp (ms_J u1879 o3 (Int32.toNatClampNeg 0)) 0) = 0 → False)) ∧ (¬ r1873 = 0 → ((lg_cmp (ms_J u1879 o3 (Int32.toNatClampNeg 0)) 1) = 0 → k u1879) ∧ (¬ (lg_cmp (ms_J u1879 o3 (Int32.toNatClampNeg 0)) 1) = 0 → False)))) ∧ (¬ r1847 = 0 → k u1879)) ∧ (¬ r1879 = r1847 → False)))))))) ∧ (¬ (xs (Int32.toNatClampNeg (x4 + 2))) = 0 → wp_L_setOpen E u o1 (xs (Int32.toNatClampNeg (x4 + 1))) 1 o3 (fun r1847 u1847 => vp_in (x4 + 1) Ln ∧ (vp_in (x4 + 2) Ln ∧ (((xs (Int32.toNatClampNeg (x4 + 2))) = 0 → wp_X11_setOpen E u1847 o2 (xs (Int32.toNatClampNeg (x4 + 1))) 0 (fun r1873 u1873 => wp_X11_thrown E u1873 o2 (fun r1879 u1879 => (r1879 = r1847 → (r1847 = 0 → vp_in 0 1 ∧ ((r1873 = 0 → ((lg_cmp (ms_J u1879 o3 (Int32.toNatClampNeg 0)) 0) = 0 → k u1879) ∧ (¬ (lg_cmp (ms_J u1879 o3 (Int32.toNatClampNeg 0)) 0) = 0 → False)) ∧ (¬ r1873 = 0 → ((lg_cmp (ms_J u1879 o3 (Int32.toNatClampNeg 0)) 1) = 0 → k u1879) ∧ (¬ (lg_cmp (ms_J u1879 o3 (Int32.toNatClampNeg 0)) 1) = 0 → False)))) ∧ (¬ r1847 = 0 → k u1879)) ∧ (¬ r1879 = r1847 → False)))) ∧ (¬ (xs (Int32.toNatClampNeg (x4 + 2))) = 0 → wp_X11_setOpen E u1847 o2 (xs (Int32.toNatClampNeg (x4 + 1))) 1 (fun r1873 u1873 => wp_X11_thrown E u1873 o2 (fun r1879 u1879 => (r1879 = r1847 → (r1847 = 0 → vp_in 0 1 ∧ ((r1873 = 0 → ((lg_cmp (ms_J u1879 o3 (Int32.toNatClampNeg 0)) 0) = 0 → k u1879) ∧ (¬ (lg_cmp (ms_J u1879 o3 (Int32.toNatClampNeg 0)) 0) = 0 → False)) ∧ (¬ r1873 = 0 → ((lg_cmp (ms_J u1879 o3 (Int32.toNatClampNeg 0)) 1) = 0 → k u1879) ∧ (¬ (lg_cmp (ms_J u1879 o3 (Int32.toNatClampNeg 0)) 1) = 0 → False)))) ∧ (¬ r1847 = 0 → k u1879)) ∧ (¬ r1879 = r1847 → False))))))))))
set_option maxHeartbeats 4000000 in
set_option maxRecDepth 100000 in
theorem c_case_31 {p : Program} {l : Launch} {e : Env} {s : State} {m : MethodId} {args : Array Value} {below : List Frame} {meth : Method} {c : Code} {G : va_G} {cy : Nat → ClassId} {A : Nat → Prop} {L : Nat → Nat} {E : ms_En} {Q : State → Prop} (C : ms_Cx p m c cL_law 7 s args (Cond.initialized "CensusWalkLaw") "CensusWalkLaw" G cy A) (hl9 : l.stackTraces = false) (hE : ms_WT E) {b Ln : Nat} {xs : Nat → Int32} (hX : va_X b Ln xs s s.heap) (hbl : b < s.heap.size) (hbA : ¬ A b) {o1 o2 o3 : Nat} (h1 : ms_is E o1 10) (h2 : ms_is E o2 11) (h3 : ms_is E o3 14) (n3 : ms_N E o3 = 1) {k : ms_St → Prop} {x4 : Int32} {n : Nat} (hn9 : n ≤ 1000) (hk : ∀ u : ms_St, k u → ms_At p l e room_1 s m args below meth c 7 G cy A L (601024 - 4 * n) (7293034 - 24 * n) Q E u 1943 [(0, .ref b), (1, .ref (L o1)), (2, .ref (L o2)), (3, .ref (L o3)), (4, .int x4)] []) (u : ms_St) (h : wp_case_31 E Ln xs o1 o2 o3 x4 k u) : ms_At p l e room_1 s m args below meth c 7 G cy A L (601024 - 4 * (n + 1)) (7293034 - 24 * (n + 1)) Q E u 1825 [(0, .ref b), (1, .ref (L o1)), (2, .ref (L o2)), (3, .ref (L o3)), (4, .int x4)] [] := by
  unfold wp_case_31 at h
  refine a_aload_n C dL_law_1825 rfl 1 rfl rfl ?_
  refine a_aload_n C dL_law_1826 rfl 0 rfl rfl ?_
  refine a_iload C dL_law_1827 4 rfl rfl ?_
  refine a_iconst (v := 1) C dL_law_1829 (by decide) rfl ?_
  refine a_iadd C dL_law_1830 rfl ?_
  obtain ⟨q1831, h⟩ := h
  refine a_sld C hX hbl hbA dL_law_1831 q1831 rfl ?_
  refine a_aload_n C dL_law_1832 rfl 0 rfl rfl ?_
  refine a_iload C dL_law_1833 4 rfl rfl ?_
  refine a_iconst (v := 2) C dL_law_1835 (by decide) rfl ?_
  refine a_iadd C dL_law_1836 rfl ?_
  obtain ⟨q1837, h⟩ := h
  refine a_sld C hX hbl hbA dL_law_1837 q1837 rfl ?_
  refine a_if_eq (tgt := 1845) C dL_law_1838 (by decide) rfl (fun hc => ?_) (fun hc => ?_)
  · replace h := h.1 hc
    refine a_iconst (v := 0) C dL_law_1845 (by decide) rfl ?_
    refine a_aload_n C dL_law_1846 rfl 3 rfl rfl ?_
    refine a_callZI C (c_L_setOpen l G cy L E hE hl9 u o1 (xs (Int32.toNatClampNeg (x4 + 1))) 0 o3 h1 h3 _ h) kw_5_207 kw_5_208 kw_1_0 kw_5_209 rfl rfl pd_L_setOpen ⟨(Nat.le_of_ble_eq_true rfl), (Nat.le_of_ble_eq_true rfl)⟩ dL_law_1847 rfl (Nat.le_of_ble_eq_true rfl) ⟨by show _ ≤ 601024; omega, by show _ ≤ 7293034; omega⟩ rfl (fun r1847 u1847 h => ?_)
    refine a_istore (lv' := [(0, .ref b), (1, .ref (L o1)), (2, .ref (L o2)), (3, .ref (L o3)), (4, .int x4), (5, .int r1847)]) C dL_law_1850 (by decide) [1, 2, 3, 4, 5, 0] rfl rfl ?_
    refine a_aload_n C dL_law_1852 rfl 2 rfl rfl ?_
    refine a_aload_n C dL_law_1853 rfl 0 rfl rfl ?_
    refine a_iload C dL_law_1854 4 rfl rfl ?_
    refine a_iconst (v := 1) C dL_law_1856 (by decide) rfl ?_
    refine a_iadd C dL_law_1857 rfl ?_
    obtain ⟨q1858, h⟩ := h
    refine a_sld C hX hbl hbA dL_law_1858 q1858 rfl ?_
    refine a_aload_n C dL_law_1859 rfl 0 rfl rfl ?_
    refine a_iload C dL_law_1860 4 rfl rfl ?_
    refine a_iconst (v := 2) C dL_law_1862 (by decide) rfl ?_
    refine a_iadd C dL_law_1863 rfl ?_
    obtain ⟨q1864, h⟩ := h
    refine a_sld C hX hbl hbA dL_law_1864 q1864 rfl ?_
    refine a_if_eq (tgt := 1872) C dL_law_1865 (by decide) rfl (fun hc => ?_) (fun hc => ?_)
    · replace h := h.1 hc
      refine a_iconst (v := 0) C dL_law_1872 (by decide) rfl ?_
      refine a_callVI C (c_X11_setOpen l G cy L E hE u1847 o2 (xs (Int32.toNatClampNeg (x4 + 1))) 0 h2 _ h) h2 rfl (by decide) kw_7_207 kw_7_208 kw_7_209 kw_1_12 kw_7_210 rfl rfl pd_X11_setOpen ⟨(Nat.le_of_ble_eq_true rfl), (Nat.le_of_ble_eq_true rfl)⟩ dL_law_1873 rfl (Nat.le_of_ble_eq_true rfl) ⟨by show _ ≤ 601024; omega, by show _ ≤ 7293034; omega⟩ rfl (fun r1873 u1873 h => ?_)
      refine a_istore (lv' := [(0, .ref b), (1, .ref (L o1)), (2, .ref (L o2)), (3, .ref (L o3)), (4, .int x4), (5, .int r1847), (6, .int r1873)]) C dL_law_1876 (by decide) [1, 2, 3, 4, 5, 6, 0] rfl rfl ?_
      refine a_aload_n C dL_law_1878 rfl 2 rfl rfl ?_
      refine a_callVI C (c_X11_thrown l G cy L E hE u1873 o2 h2 _ h) h2 rfl (by decide) kw_6_86 kw_6_87 kw_6_88 kw_1_12 kw_6_89 rfl rfl pd_X11_thrown ⟨(Nat.le_of_ble_eq_true rfl), (Nat.le_of_ble_eq_true rfl)⟩ dL_law_1879 rfl (Nat.le_of_ble_eq_true rfl) ⟨by show _ ≤ 601024; omega, by show _ ≤ 7293034; omega⟩ rfl (fun r1879 u1879 h => ?_)
      refine a_iload C dL_law_1882 5 rfl rfl ?_
      refine a_icmp_eq (tgt := 1889) C dL_law_1884 (by decide) rfl (fun hc => ?_) (fun hc => ?_)
      · replace h := h.1 hc
        refine a_iload C dL_law_1889 5 rfl rfl ?_
        refine a_if_ne (tgt := 1913) C dL_law_1891 (by decide) rfl (fun hc => ?_) (fun hc => ?_)
        · replace h := h.2 hc
          refine a_goto (tgt := 1943) C dL_law_1913 (by decide) ?_
          refine a_sub (lv' := [(0, .ref b), (1, .ref (L o1)), (2, .ref (L o2)), (3, .ref (L o3)), (4, .int x4)]) [0, 1, 2, 3, 4] rfl ?_
          refine a_wid (k := 601024 - 4 * n) (n := 7293034 - 24 * n) (by omega) (by omega) ?_
          exact hk u1879 h
        · replace h := h.1 hc
          refine a_aload_n C dL_law_1894 rfl 3 rfl rfl ?_
          refine a_iconst (v := 0) C dL_law_1895 (by decide) rfl ?_
          obtain ⟨q1896, h⟩ := h
          refine a_lald C dL_law_1896 h3 n3 q1896 rfl ?_
          refine a_iload C dL_law_1897 6 rfl rfl ?_
          refine a_if_eq (tgt := 1906) C dL_law_1899 (by decide) rfl (fun hc => ?_) (fun hc => ?_)
          · replace h := h.1 hc
            refine a_lconst (v := 0) C dL_law_1906 (by decide) rfl ?_
            refine a_lcmp C dL_law_1907 rfl ?_
            refine a_if_eq (tgt := 1913) C dL_law_1908 (by decide) rfl (fun hc => ?_) (fun hc => ?_)
            · replace h := h.1 hc
              refine a_goto (tgt := 1943) C dL_law_1913 (by decide) ?_
              refine a_sub (lv' := [(0, .ref b), (1, .ref (L o1)), (2, .ref (L o2)), (3, .ref (L o3)), (4, .int x4)]) [0, 1, 2, 3, 4] rfl ?_
              refine a_wid (k := 601024 - 4 * n) (n := 7293034 - 24 * n) (by omega) (by omega) ?_
              exact hk u1879 h
            · replace h := h.2 hc
              exact h.elim
          · replace h := h.2 hc
            refine a_lconst (v := 1) C dL_law_1902 (by decide) rfl ?_
            refine a_goto (tgt := 1907) C dL_law_1903 (by decide) ?_
            refine a_lcmp C dL_law_1907 rfl ?_
            refine a_if_eq (tgt := 1913) C dL_law_1908 (by decide) rfl (fun hc => ?_) (fun hc => ?_)
            · replace h := h.1 hc
              refine a_goto (tgt := 1943) C dL_law_1913 (by decide) ?_
              refine a_sub (lv' := [(0, .ref b), (1, .ref (L o1)), (2, .ref (L o2)), (3, .ref (L o3)), (4, .int x4)]) [0, 1, 2, 3, 4] rfl ?_
              refine a_wid (k := 601024 - 4 * n) (n := 7293034 - 24 * n) (by omega) (by omega) ?_
              exact hk u1879 h
            · replace h := h.2 hc
              exact h.elim
      · replace h := h.2 hc
        exact h.elim
    · replace h := h.2 hc
      refine a_iconst (v := 1) C dL_law_1868 (by decide) rfl ?_
      refine a_goto (tgt := 1873) C dL_law_1869 (by decide) ?_
      refine a_callVI C (c_X11_setOpen l G cy L E hE u1847 o2 (xs (Int32.toNatClampNeg (x4 + 1))) 1 h2 _ h) h2 rfl (by decide) kw_7_207 kw_7_208 kw_7_209 kw_1_12 kw_7_210 rfl rfl pd_X11_setOpen ⟨(Nat.le_of_ble_eq_true rfl), (Nat.le_of_ble_eq_true rfl)⟩ dL_law_1873 rfl (Nat.le_of_ble_eq_true rfl) ⟨by show _ ≤ 601024; omega, by show _ ≤ 7293034; omega⟩ rfl (fun r1873 u1873 h => ?_)
      refine a_istore (lv' := [(0, .ref b), (1, .ref (L o1)), (2, .ref (L o2)), (3, .ref (L o3)), (4, .int x4), (5, .int r1847), (6, .int r1873)]) C dL_law_1876 (by decide) [1, 2, 3, 4, 5, 6, 0] rfl rfl ?_
      refine a_aload_n C dL_law_1878 rfl 2 rfl rfl ?_
      refine a_callVI C (c_X11_thrown l G cy L E hE u1873 o2 h2 _ h) h2 rfl (by decide) kw_6_86 kw_6_87 kw_6_88 kw_1_12 kw_6_89 rfl rfl pd_X11_thrown ⟨(Nat.le_of_ble_eq_true rfl), (Nat.le_of_ble_eq_true rfl)⟩ dL_law_1879 rfl (Nat.le_of_ble_eq_true rfl) ⟨by show _ ≤ 601024; omega, by show _ ≤ 7293034; omega⟩ rfl (fun r1879 u1879 h => ?_)
      refine a_iload C dL_law_1882 5 rfl rfl ?_
      refine a_icmp_eq (tgt := 1889) C dL_law_1884 (by decide) rfl (fun hc => ?_) (fun hc => ?_)
      · replace h := h.1 hc
        refine a_iload C dL_law_1889 5 rfl rfl ?_
        refine a_if_ne (tgt := 1913) C dL_law_1891 (by decide) rfl (fun hc => ?_) (fun hc => ?_)
        · replace h := h.2 hc
          refine a_goto (tgt := 1943) C dL_law_1913 (by decide) ?_
          refine a_sub (lv' := [(0, .ref b), (1, .ref (L o1)), (2, .ref (L o2)), (3, .ref (L o3)), (4, .int x4)]) [0, 1, 2, 3, 4] rfl ?_
          refine a_wid (k := 601024 - 4 * n) (n := 7293034 - 24 * n) (by omega) (by omega) ?_
          exact hk u1879 h
        · replace h := h.1 hc
          refine a_aload_n C dL_law_1894 rfl 3 rfl rfl ?_
          refine a_iconst (v := 0) C dL_law_1895 (by decide) rfl ?_
          obtain ⟨q1896, h⟩ := h
          refine a_lald C dL_law_1896 h3 n3 q1896 rfl ?_
          refine a_iload C dL_law_1897 6 rfl rfl ?_
          refine a_if_eq (tgt := 1906) C dL_law_1899 (by decide) rfl (fun hc => ?_) (fun hc => ?_)
          · replace h := h.1 hc
            refine a_lconst (v := 0) C dL_law_1906 (by decide) rfl ?_
            refine a_lcmp C dL_law_1907 rfl ?_
            refine a_if_eq (tgt := 1913) C dL_law_1908 (by decide) rfl (fun hc => ?_) (fun hc => ?_)
            · replace h := h.1 hc
              refine a_goto (tgt := 1943) C dL_law_1913 (by decide) ?_
              refine a_sub (lv' := [(0, .ref b), (1, .ref (L o1)), (2, .ref (L o2)), (3, .ref (L o3)), (4, .int x4)]) [0, 1, 2, 3, 4] rfl ?_
              refine a_wid (k := 601024 - 4 * n) (n := 7293034 - 24 * n) (by omega) (by omega) ?_
              exact hk u1879 h
            · replace h := h.2 hc
              exact h.elim
          · replace h := h.2 hc
            refine a_lconst (v := 1) C dL_law_1902 (by decide) rfl ?_
            refine a_goto (tgt := 1907) C dL_law_1903 (by decide) ?_
            refine a_lcmp C dL_law_1907 rfl ?_
            refine a_if_eq (tgt := 1913) C dL_law_1908 (by decide) rfl (fun hc => ?_) (fun hc => ?_)
            · replace h := h.1 hc
              refine a_goto (tgt := 1943) C dL_law_1913 (by decide) ?_
              refine a_sub (lv' := [(0, .ref b), (1, .ref (L o1)), (2, .ref (L o2)), (3, .ref (L o3)), (4, .int x4)]) [0, 1, 2, 3, 4] rfl ?_
              refine a_wid (k := 601024 - 4 * n) (n := 7293034 - 24 * n) (by omega) (by omega) ?_
              exact hk u1879 h
            · replace h := h.2 hc
              exact h.elim
      · replace h := h.2 hc
        exact h.elim
  · replace h := h.2 hc
    refine a_iconst (v := 1) C dL_law_1841 (by decide) rfl ?_
    refine a_goto (tgt := 1846) C dL_law_1842 (by decide) ?_
    refine a_aload_n C dL_law_1846 rfl 3 rfl rfl ?_
    refine a_callZI C (c_L_setOpen l G cy L E hE hl9 u o1 (xs (Int32.toNatClampNeg (x4 + 1))) 1 o3 h1 h3 _ h) kw_5_207 kw_5_208 kw_1_0 kw_5_209 rfl rfl pd_L_setOpen ⟨(Nat.le_of_ble_eq_true rfl), (Nat.le_of_ble_eq_true rfl)⟩ dL_law_1847 rfl (Nat.le_of_ble_eq_true rfl) ⟨by show _ ≤ 601024; omega, by show _ ≤ 7293034; omega⟩ rfl (fun r1847 u1847 h => ?_)
    refine a_istore (lv' := [(0, .ref b), (1, .ref (L o1)), (2, .ref (L o2)), (3, .ref (L o3)), (4, .int x4), (5, .int r1847)]) C dL_law_1850 (by decide) [1, 2, 3, 4, 5, 0] rfl rfl ?_
    refine a_aload_n C dL_law_1852 rfl 2 rfl rfl ?_
    refine a_aload_n C dL_law_1853 rfl 0 rfl rfl ?_
    refine a_iload C dL_law_1854 4 rfl rfl ?_
    refine a_iconst (v := 1) C dL_law_1856 (by decide) rfl ?_
    refine a_iadd C dL_law_1857 rfl ?_
    obtain ⟨q1858, h⟩ := h
    refine a_sld C hX hbl hbA dL_law_1858 q1858 rfl ?_
    refine a_aload_n C dL_law_1859 rfl 0 rfl rfl ?_
    refine a_iload C dL_law_1860 4 rfl rfl ?_
    refine a_iconst (v := 2) C dL_law_1862 (by decide) rfl ?_
    refine a_iadd C dL_law_1863 rfl ?_
    obtain ⟨q1864, h⟩ := h
    refine a_sld C hX hbl hbA dL_law_1864 q1864 rfl ?_
    refine a_if_eq (tgt := 1872) C dL_law_1865 (by decide) rfl (fun hc => ?_) (fun hc => ?_)
    · replace h := h.1 hc
      refine a_iconst (v := 0) C dL_law_1872 (by decide) rfl ?_
      refine a_callVI C (c_X11_setOpen l G cy L E hE u1847 o2 (xs (Int32.toNatClampNeg (x4 + 1))) 0 h2 _ h) h2 rfl (by decide) kw_7_207 kw_7_208 kw_7_209 kw_1_12 kw_7_210 rfl rfl pd_X11_setOpen ⟨(Nat.le_of_ble_eq_true rfl), (Nat.le_of_ble_eq_true rfl)⟩ dL_law_1873 rfl (Nat.le_of_ble_eq_true rfl) ⟨by show _ ≤ 601024; omega, by show _ ≤ 7293034; omega⟩ rfl (fun r1873 u1873 h => ?_)
      refine a_istore (lv' := [(0, .ref b), (1, .ref (L o1)), (2, .ref (L o2)), (3, .ref (L o3)), (4, .int x4), (5, .int r1847), (6, .int r1873)]) C dL_law_1876 (by decide) [1, 2, 3, 4, 5, 6, 0] rfl rfl ?_
      refine a_aload_n C dL_law_1878 rfl 2 rfl rfl ?_
      refine a_callVI C (c_X11_thrown l G cy L E hE u1873 o2 h2 _ h) h2 rfl (by decide) kw_6_86 kw_6_87 kw_6_88 kw_1_12 kw_6_89 rfl rfl pd_X11_thrown ⟨(Nat.le_of_ble_eq_true rfl), (Nat.le_of_ble_eq_true rfl)⟩ dL_law_1879 rfl (Nat.le_of_ble_eq_true rfl) ⟨by show _ ≤ 601024; omega, by show _ ≤ 7293034; omega⟩ rfl (fun r1879 u1879 h => ?_)
      refine a_iload C dL_law_1882 5 rfl rfl ?_
      refine a_icmp_eq (tgt := 1889) C dL_law_1884 (by decide) rfl (fun hc => ?_) (fun hc => ?_)
      · replace h := h.1 hc
        refine a_iload C dL_law_1889 5 rfl rfl ?_
        refine a_if_ne (tgt := 1913) C dL_law_1891 (by decide) rfl (fun hc => ?_) (fun hc => ?_)
        · replace h := h.2 hc
          refine a_goto (tgt := 1943) C dL_law_1913 (by decide) ?_
          refine a_sub (lv' := [(0, .ref b), (1, .ref (L o1)), (2, .ref (L o2)), (3, .ref (L o3)), (4, .int x4)]) [0, 1, 2, 3, 4] rfl ?_
          refine a_wid (k := 601024 - 4 * n) (n := 7293034 - 24 * n) (by omega) (by omega) ?_
          exact hk u1879 h
        · replace h := h.1 hc
          refine a_aload_n C dL_law_1894 rfl 3 rfl rfl ?_
          refine a_iconst (v := 0) C dL_law_1895 (by decide) rfl ?_
          obtain ⟨q1896, h⟩ := h
          refine a_lald C dL_law_1896 h3 n3 q1896 rfl ?_
          refine a_iload C dL_law_1897 6 rfl rfl ?_
          refine a_if_eq (tgt := 1906) C dL_law_1899 (by decide) rfl (fun hc => ?_) (fun hc => ?_)
          · replace h := h.1 hc
            refine a_lconst (v := 0) C dL_law_1906 (by decide) rfl ?_
            refine a_lcmp C dL_law_1907 rfl ?_
            refine a_if_eq (tgt := 1913) C dL_law_1908 (by decide) rfl (fun hc => ?_) (fun hc => ?_)
            · replace h := h.1 hc
              refine a_goto (tgt := 1943) C dL_law_1913 (by decide) ?_
              refine a_sub (lv' := [(0, .ref b), (1, .ref (L o1)), (2, .ref (L o2)), (3, .ref (L o3)), (4, .int x4)]) [0, 1, 2, 3, 4] rfl ?_
              refine a_wid (k := 601024 - 4 * n) (n := 7293034 - 24 * n) (by omega) (by omega) ?_
              exact hk u1879 h
            · replace h := h.2 hc
              exact h.elim
          · replace h := h.2 hc
            refine a_lconst (v := 1) C dL_law_1902 (by decide) rfl ?_
            refine a_goto (tgt := 1907) C dL_law_1903 (by decide) ?_
            refine a_lcmp C dL_law_1907 rfl ?_
            refine a_if_eq (tgt := 1913) C dL_law_1908 (by decide) rfl (fun hc => ?_) (fun hc => ?_)
            · replace h := h.1 hc
              refine a_goto (tgt := 1943) C dL_law_1913 (by decide) ?_
              refine a_sub (lv' := [(0, .ref b), (1, .ref (L o1)), (2, .ref (L o2)), (3, .ref (L o3)), (4, .int x4)]) [0, 1, 2, 3, 4] rfl ?_
              refine a_wid (k := 601024 - 4 * n) (n := 7293034 - 24 * n) (by omega) (by omega) ?_
              exact hk u1879 h
            · replace h := h.2 hc
              exact h.elim
      · replace h := h.2 hc
        exact h.elim
    · replace h := h.2 hc
      refine a_iconst (v := 1) C dL_law_1868 (by decide) rfl ?_
      refine a_goto (tgt := 1873) C dL_law_1869 (by decide) ?_
      refine a_callVI C (c_X11_setOpen l G cy L E hE u1847 o2 (xs (Int32.toNatClampNeg (x4 + 1))) 1 h2 _ h) h2 rfl (by decide) kw_7_207 kw_7_208 kw_7_209 kw_1_12 kw_7_210 rfl rfl pd_X11_setOpen ⟨(Nat.le_of_ble_eq_true rfl), (Nat.le_of_ble_eq_true rfl)⟩ dL_law_1873 rfl (Nat.le_of_ble_eq_true rfl) ⟨by show _ ≤ 601024; omega, by show _ ≤ 7293034; omega⟩ rfl (fun r1873 u1873 h => ?_)
      refine a_istore (lv' := [(0, .ref b), (1, .ref (L o1)), (2, .ref (L o2)), (3, .ref (L o3)), (4, .int x4), (5, .int r1847), (6, .int r1873)]) C dL_law_1876 (by decide) [1, 2, 3, 4, 5, 6, 0] rfl rfl ?_
      refine a_aload_n C dL_law_1878 rfl 2 rfl rfl ?_
      refine a_callVI C (c_X11_thrown l G cy L E hE u1873 o2 h2 _ h) h2 rfl (by decide) kw_6_86 kw_6_87 kw_6_88 kw_1_12 kw_6_89 rfl rfl pd_X11_thrown ⟨(Nat.le_of_ble_eq_true rfl), (Nat.le_of_ble_eq_true rfl)⟩ dL_law_1879 rfl (Nat.le_of_ble_eq_true rfl) ⟨by show _ ≤ 601024; omega, by show _ ≤ 7293034; omega⟩ rfl (fun r1879 u1879 h => ?_)
      refine a_iload C dL_law_1882 5 rfl rfl ?_
      refine a_icmp_eq (tgt := 1889) C dL_law_1884 (by decide) rfl (fun hc => ?_) (fun hc => ?_)
      · replace h := h.1 hc
        refine a_iload C dL_law_1889 5 rfl rfl ?_
        refine a_if_ne (tgt := 1913) C dL_law_1891 (by decide) rfl (fun hc => ?_) (fun hc => ?_)
        · replace h := h.2 hc
          refine a_goto (tgt := 1943) C dL_law_1913 (by decide) ?_
          refine a_sub (lv' := [(0, .ref b), (1, .ref (L o1)), (2, .ref (L o2)), (3, .ref (L o3)), (4, .int x4)]) [0, 1, 2, 3, 4] rfl ?_
          refine a_wid (k := 601024 - 4 * n) (n := 7293034 - 24 * n) (by omega) (by omega) ?_
          exact hk u1879 h
        · replace h := h.1 hc
          refine a_aload_n C dL_law_1894 rfl 3 rfl rfl ?_
          refine a_iconst (v := 0) C dL_law_1895 (by decide) rfl ?_
          obtain ⟨q1896, h⟩ := h
          refine a_lald C dL_law_1896 h3 n3 q1896 rfl ?_
          refine a_iload C dL_law_1897 6 rfl rfl ?_
          refine a_if_eq (tgt := 1906) C dL_law_1899 (by decide) rfl (fun hc => ?_) (fun hc => ?_)
          · replace h := h.1 hc
            refine a_lconst (v := 0) C dL_law_1906 (by decide) rfl ?_
            refine a_lcmp C dL_law_1907 rfl ?_
            refine a_if_eq (tgt := 1913) C dL_law_1908 (by decide) rfl (fun hc => ?_) (fun hc => ?_)
            · replace h := h.1 hc
              refine a_goto (tgt := 1943) C dL_law_1913 (by decide) ?_
              refine a_sub (lv' := [(0, .ref b), (1, .ref (L o1)), (2, .ref (L o2)), (3, .ref (L o3)), (4, .int x4)]) [0, 1, 2, 3, 4] rfl ?_
              refine a_wid (k := 601024 - 4 * n) (n := 7293034 - 24 * n) (by omega) (by omega) ?_
              exact hk u1879 h
            · replace h := h.2 hc
              exact h.elim
          · replace h := h.2 hc
            refine a_lconst (v := 1) C dL_law_1902 (by decide) rfl ?_
            refine a_goto (tgt := 1907) C dL_law_1903 (by decide) ?_
            refine a_lcmp C dL_law_1907 rfl ?_
            refine a_if_eq (tgt := 1913) C dL_law_1908 (by decide) rfl (fun hc => ?_) (fun hc => ?_)
            · replace h := h.1 hc
              refine a_goto (tgt := 1943) C dL_law_1913 (by decide) ?_
              refine a_sub (lv' := [(0, .ref b), (1, .ref (L o1)), (2, .ref (L o2)), (3, .ref (L o3)), (4, .int x4)]) [0, 1, 2, 3, 4] rfl ?_
              refine a_wid (k := 601024 - 4 * n) (n := 7293034 - 24 * n) (by omega) (by omega) ?_
              exact hk u1879 h
            · replace h := h.2 hc
              exact h.elim
      · replace h := h.2 hc
        exact h.elim
def wp_case_32 (E : ms_En) (Ln : Nat) (xs : Nat → Int32) (o1 o2 o3 : Nat) (x4 : Int32) (k : ms_St → Prop) (u : ms_St) : Prop := wp_X10_undo E u o1 (fun r1917 u1917 => wp_X11_undo E u1917 o2 (fun r1921 u1921 => (r1917 = r1921 → k u1921) ∧ (¬ r1917 = r1921 → False)))
set_option maxHeartbeats 4000000 in
set_option maxRecDepth 100000 in
theorem c_case_32 {p : Program} {l : Launch} {e : Env} {s : State} {m : MethodId} {args : Array Value} {below : List Frame} {meth : Method} {c : Code} {G : va_G} {cy : Nat → ClassId} {A : Nat → Prop} {L : Nat → Nat} {E : ms_En} {Q : State → Prop} (C : ms_Cx p m c cL_law 7 s args (Cond.initialized "CensusWalkLaw") "CensusWalkLaw" G cy A) (hl9 : l.stackTraces = false) (hE : ms_WT E) {b Ln : Nat} {xs : Nat → Int32} (hX : va_X b Ln xs s s.heap) (hbl : b < s.heap.size) (hbA : ¬ A b) {o1 o2 o3 : Nat} (h1 : ms_is E o1 10) (h2 : ms_is E o2 11) (h3 : ms_is E o3 14) (n3 : ms_N E o3 = 1) {k : ms_St → Prop} {x4 : Int32} {n : Nat} (hn9 : n ≤ 1000) (hk : ∀ u : ms_St, k u → ms_At p l e room_1 s m args below meth c 7 G cy A L (601024 - 4 * n) (7293034 - 24 * n) Q E u 1943 [(0, .ref b), (1, .ref (L o1)), (2, .ref (L o2)), (3, .ref (L o3)), (4, .int x4)] []) (u : ms_St) (h : wp_case_32 E Ln xs o1 o2 o3 x4 k u) : ms_At p l e room_1 s m args below meth c 7 G cy A L (601024 - 4 * (n + 1)) (7293034 - 24 * (n + 1)) Q E u 1916 [(0, .ref b), (1, .ref (L o1)), (2, .ref (L o2)), (3, .ref (L o3)), (4, .int x4)] [] := by
  unfold wp_case_32 at h
  refine a_aload_n C dL_law_1916 rfl 1 rfl rfl ?_
  refine a_callVI C (c_X10_undo l G cy L E hE u o1 h1 _ h) h1 rfl (by decide) kw_3_94 kw_3_95 kw_3_96 kw_1_1 kw_3_97 rfl rfl pd_X10_undo ⟨(Nat.le_of_ble_eq_true rfl), (Nat.le_of_ble_eq_true rfl)⟩ dL_law_1917 rfl (Nat.le_of_ble_eq_true rfl) ⟨by show _ ≤ 601024; omega, by show _ ≤ 7293034; omega⟩ rfl (fun r1917 u1917 h => ?_)
  refine a_aload_n C dL_law_1920 rfl 2 rfl rfl ?_
  refine a_callVI C (c_X11_undo l G cy L E hE u1917 o2 h2 _ h) h2 rfl (by decide) kw_7_211 kw_7_212 kw_7_213 kw_1_12 kw_7_214 rfl rfl pd_X11_undo ⟨(Nat.le_of_ble_eq_true rfl), (Nat.le_of_ble_eq_true rfl)⟩ dL_law_1921 rfl (Nat.le_of_ble_eq_true rfl) ⟨by show _ ≤ 601024; omega, by show _ ≤ 7293034; omega⟩ rfl (fun r1921 u1921 h => ?_)
  refine a_icmp_eq (tgt := 1943) C dL_law_1924 (by decide) rfl (fun hc => ?_) (fun hc => ?_)
  · replace h := h.1 hc
    refine a_wid (k := 601024 - 4 * n) (n := 7293034 - 24 * n) (by omega) (by omega) ?_
    exact hk u1921 h
  · replace h := h.2 hc
    exact h.elim
def wp_case_33 (E : ms_En) (Ln : Nat) (xs : Nat → Int32) (o1 o2 o3 : Nat) (x4 : Int32) (k : ms_St → Prop) (u : ms_St) : Prop := wp_X10_checksum E u o1 (fun r1930 u1930 => wp_X11_checksum E u1930 o2 (fun r1934 u1934 => ((lg_cmp r1930 r1934) = 0 → k u1934) ∧ (¬ (lg_cmp r1930 r1934) = 0 → False)))
set_option maxHeartbeats 4000000 in
set_option maxRecDepth 100000 in
theorem c_case_33 {p : Program} {l : Launch} {e : Env} {s : State} {m : MethodId} {args : Array Value} {below : List Frame} {meth : Method} {c : Code} {G : va_G} {cy : Nat → ClassId} {A : Nat → Prop} {L : Nat → Nat} {E : ms_En} {Q : State → Prop} (C : ms_Cx p m c cL_law 7 s args (Cond.initialized "CensusWalkLaw") "CensusWalkLaw" G cy A) (hl9 : l.stackTraces = false) (hE : ms_WT E) {b Ln : Nat} {xs : Nat → Int32} (hX : va_X b Ln xs s s.heap) (hbl : b < s.heap.size) (hbA : ¬ A b) {o1 o2 o3 : Nat} (h1 : ms_is E o1 10) (h2 : ms_is E o2 11) (h3 : ms_is E o3 14) (n3 : ms_N E o3 = 1) {k : ms_St → Prop} {x4 : Int32} {n : Nat} (hn9 : n ≤ 1000) (hk : ∀ u : ms_St, k u → ms_At p l e room_1 s m args below meth c 7 G cy A L (601024 - 4 * n) (7293034 - 24 * n) Q E u 1943 [(0, .ref b), (1, .ref (L o1)), (2, .ref (L o2)), (3, .ref (L o3)), (4, .int x4)] []) (u : ms_St) (h : wp_case_33 E Ln xs o1 o2 o3 x4 k u) : ms_At p l e room_1 s m args below meth c 7 G cy A L (601024 - 4 * (n + 1)) (7293034 - 24 * (n + 1)) Q E u 1929 [(0, .ref b), (1, .ref (L o1)), (2, .ref (L o2)), (3, .ref (L o3)), (4, .int x4)] [] := by
  unfold wp_case_33 at h
  refine a_aload_n C dL_law_1929 rfl 1 rfl rfl ?_
  refine a_callVL C (c_X10_checksum l G cy L E hE u o1 h1 _ h) h1 rfl (by decide) kw_3_123 kw_3_124 kw_3_125 kw_1_1 kw_3_126 rfl rfl pd_X10_checksum ⟨(Nat.le_of_ble_eq_true rfl), (Nat.le_of_ble_eq_true rfl)⟩ dL_law_1930 rfl (Nat.le_of_ble_eq_true rfl) ⟨by show _ ≤ 601024; omega, by show _ ≤ 7293034; omega⟩ rfl (fun r1930 u1930 h => ?_)
  refine a_aload_n C dL_law_1933 rfl 2 rfl rfl ?_
  refine a_callVL C (c_X11_checksum l G cy L E hE u1930 o2 h2 _ h) h2 rfl (by decide) kw_7_215 kw_7_216 kw_7_217 kw_1_12 kw_7_218 rfl rfl pd_X11_checksum ⟨(Nat.le_of_ble_eq_true rfl), (Nat.le_of_ble_eq_true rfl)⟩ dL_law_1934 rfl (Nat.le_of_ble_eq_true rfl) ⟨by show _ ≤ 601024; omega, by show _ ≤ 7293034; omega⟩ rfl (fun r1934 u1934 h => ?_)
  refine a_lcmp C dL_law_1937 rfl ?_
  refine a_if_eq (tgt := 1943) C dL_law_1938 (by decide) rfl (fun hc => ?_) (fun hc => ?_)
  · replace h := h.1 hc
    refine a_wid (k := 601024 - 4 * n) (n := 7293034 - 24 * n) (by omega) (by omega) ?_
    exact hk u1934 h
  · replace h := h.2 hc
    exact h.elim
