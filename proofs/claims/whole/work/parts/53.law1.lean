section LWR
variable {cx : Cx} {l : Launch} {y : MethodName} {cc : ByteArray} {nL : Nat} {ret : Option FieldType} {d mc ms n0 : Nat} {X : Nat × (Nat → Int32)} {Q : Option Value → Nat → Wd → Prop} {kc ks n : Nat} {σ : Wd} {pc : Nat} {ls : List (Option Value)} {st : List Value}
theorem rl_ad0 (E : EE) : rl_ad E 1000000 = E.2 0 := by simp [rl_ad]
/-- the script's number at a place -/
theorem R.sald (hc : cx = (l, y, cc, nL, ret, d, mc, ms, n0, X, Q)) {j : Nat} (hd : decode cc pc = .ok (.iaload, 1)) (hj : j < X.1) (hm : X.1 < 2 ^ 31) (k : R cx kc ks n σ (pc + 1) ls (.int (X.2 j) :: st)) : R cx kc ks n σ pc ls (.int (nI j) :: .ref 1000000 :: st) := by
  subst hc
  intro p e s m args below meth c dC dI dA E H locs la F hH hS hl
  have hX := F.2.2.2.2.2.2.2.2.1
  have hE := F.2.2.2.2.2.2.2.2.2.1
  have h5 : E.2 0 < E.1 := hX.2.2.2.2.1
  show W p _ e _ s m args below meth c H locs kc ks _ (F0 m pc la (.int (nI j) :: .ref (rl_ad E 1000000) :: st.map (rl_tv E)))
  rw [rl_ad0]
  refine va_sld F.1 F.2.1 hX.2.2.2.1 (Nat.lt_of_lt_of_le h5 hE) (Nat.not_le.mpr h5) hS (vp_in_nI hj hm) hd ?_
  rw [nI_clamp (Nat.lt_trans hj hm)]
  exact k p e s m args below meth c dC dI dA E H locs la F hH hS hl
theorem R.slen (hc : cx = (l, y, cc, nL, ret, d, mc, ms, n0, X, Q)) (hd : decode cc pc = .ok (.arraylength, 1)) (k : R cx kc ks n σ (pc + 1) ls (.int (nI X.1) :: st)) : R cx kc ks n σ pc ls (.ref 1000000 :: st) := by
  subst hc
  intro p e s m args below meth c dC dI dA E H locs la F hH hS hl
  have hX := F.2.2.2.2.2.2.2.2.1
  have hE := F.2.2.2.2.2.2.2.2.2.1
  have h5 : E.2 0 < E.1 := hX.2.2.2.2.1
  show W p _ e _ s m args below meth c H locs kc ks _ (F0 m pc la (.ref (rl_ad E 1000000) :: st.map (rl_tv E)))
  rw [rl_ad0]
  exact va_slen F.1 F.2.1 hX.2.2.2.1 (Nat.lt_of_lt_of_le h5 hE) (Nat.not_le.mpr h5) hS hd (k p e s m args below meth c dC dI dA E H locs la F hH hS hl)
end LWR
theorem and63 (z : Int32) : ∃ c, c < 64 ∧ z &&& nI 63 = nI c := by
  refine ⟨(z &&& nI 63).toBitVec.toNat, ?_, ?_⟩
  · rw [Int32.toBitVec_and, BitVec.toNat_and]
    exact Nat.lt_of_le_of_lt Nat.and_le_right (by decide)
  · apply Int32.toBitVec_inj.mp
    unfold nI
    simp
abbrev lw_cx (l : Launch) (L : Nat) (xs : Nat → Int32) (Q : Option Value → Nat → Wd → Prop) : Cx := (l, yL_law, cL_law, 4, some .boolean, 12, 59, 1711, 0, (L, xs), Q)
abbrev lw_ls (i : Nat) : List (Option Value) := [some (.ref 1000000), some (.ref 0), some (.ref 42), some (.int (nI i))]
set_option maxHeartbeats 4000000 in
set_option maxRecDepth 100000 in
theorem lw_puddle {cx : Cx} {l : Launch} {L : Nat} {xs : Nat → Int32} {Q : Option Value → Nat → Wd → Prop} (hc : cx = lw_cx l L xs Q) {i : Nat} {σ : Wd} (hi : i + 7 ≤ L) (hL : L ≤ 448) (hI : LI σ) (nxt : ∀ σ', LI σ' → R cx 59 1711 59 σ' 1342 (lw_ls i) []) : R cx 59 1711 59 σ 192 (lw_ls i) [] := by
  obtain ⟨a, np, nq, hr, dr, hs, im, tp, tl, ln, sz, it, hC, hR, hI⟩ := hI
  refine R.aload_n (j := 1) (i := 1) hc rfl rfl dL_law_192 ?_
  refine R.aload_n (j := 0) (i := 0) hc rfl rfl dL_law_193 ?_
  refine R.iload_n (j := 3) (i := 3) hc rfl rfl dL_law_194 ?_
  refine R.iconst hc ic_1 dL_law_195 ?_
  refine R.iaddN hc dL_law_196 ?_
  refine R.sald hc dL_law_197 (show _ < L by omega) (show L < 2 ^ 31 by omega) ?_
  refine R.aload_n (j := 0) (i := 0) hc rfl rfl dL_law_198 ?_
  refine R.iload_n (j := 3) (i := 3) hc rfl rfl dL_law_199 ?_
  refine R.iconst hc ic_2 dL_law_200 ?_
  refine R.iaddN hc dL_law_201 ?_
  refine R.sald hc dL_law_202 (show _ < L by omega) (show L < 2 ^ 31 by omega) ?_
  refine R.aload_n (j := 0) (i := 0) hc rfl rfl dL_law_203 ?_
  refine R.iload_n (j := 3) (i := 3) hc rfl rfl dL_law_204 ?_
  refine R.iconst hc ic_3 dL_law_205 ?_
  refine R.iaddN hc dL_law_206 ?_
  refine R.sald hc dL_law_207 (show _ < L by omega) (show L < 2 ^ 31 by omega) ?_
  refine R.dVi hc m_X6_puddle lk_L_13 dL_law_208 (c_X6_puddle l 0 (L, xs) 59 hC hI _ _ _) hC.obj rfl rfl rfl (by omega) ⟨Nat.le_refl _, Nat.le_refl _⟩ (Nat.le_of_ble_eq_true rfl) (fun σ1 hX => ?_)
  obtain ⟨hP, hE⟩ := hX
  have hR := hR.ag (fun j h1 h2 => hE j (by omega))
  refine R.aload_n (j := 2) (i := 2) hc rfl rfl dL_law_211 ?_
  refine R.aload_n (j := 0) (i := 0) hc rfl rfl dL_law_212 ?_
  refine R.iload_n (j := 3) (i := 3) hc rfl rfl dL_law_213 ?_
  refine R.iconst hc ic_1 dL_law_214 ?_
  refine R.iaddN hc dL_law_215 ?_
  refine R.sald hc dL_law_216 (show _ < L by omega) (show L < 2 ^ 31 by omega) ?_
  refine R.aload_n (j := 0) (i := 0) hc rfl rfl dL_law_217 ?_
  refine R.iload_n (j := 3) (i := 3) hc rfl rfl dL_law_218 ?_
  refine R.iconst hc ic_2 dL_law_219 ?_
  refine R.iaddN hc dL_law_220 ?_
  refine R.sald hc dL_law_221 (show _ < L by omega) (show L < 2 ^ 31 by omega) ?_
  refine R.aload_n (j := 0) (i := 0) hc rfl rfl dL_law_222 ?_
  refine R.iload_n (j := 3) (i := 3) hc rfl rfl dL_law_223 ?_
  refine R.iconst hc ic_3 dL_law_224 ?_
  refine R.iaddN hc dL_law_225 ?_
  refine R.sald hc dL_law_226 (show _ < L by omega) (show L < 2 ^ 31 by omega) ?_
  refine R.dVi hc m_X7_puddle lk_L_17 dL_law_227 (c_X7_puddle l 0 (L, xs) 59 hR hI _ _ _) hR.obj rfl rfl rfl (by omega) ⟨Nat.le_refl _, Nat.le_refl _⟩ (Nat.le_of_ble_eq_true rfl) (fun σ2 hX => ?_)
  obtain ⟨hP2, hE2⟩ := hX
  refine R.icmp_eq (tgt := 1342) hc dL_law_230 (by decide) (fun _ => nxt σ2 ?_) (fun z => absurd rfl z)
  split at hP
  · rename_i h9
    rw [if_pos h9] at hP2
    exact LI.of hP hP2 hE2 (hI.puddle h9)
  · rename_i h9
    rw [if_neg h9] at hP2
    exact LI.of hP hP2 hE2 hI
set_option maxHeartbeats 4000000 in
set_option maxRecDepth 100000 in
theorem lw_person {cx : Cx} {l : Launch} {L : Nat} {xs : Nat → Int32} {Q : Option Value → Nat → Wd → Prop} (hc : cx = lw_cx l L xs Q) {i : Nat} {σ : Wd} (hi : i + 7 ≤ L) (hL : L ≤ 448) (hI : LI σ) (nxt : ∀ σ', LI σ' → R cx 59 1711 59 σ' 1342 (lw_ls i) []) : R cx 59 1711 59 σ 235 (lw_ls i) [] := by
  obtain ⟨a, np, nq, hr, dr, hs, im, tp, tl, ln, sz, it, hC, hR, hI⟩ := hI
  refine R.aload_n (j := 1) (i := 1) hc rfl rfl dL_law_235 ?_
  refine R.aload_n (j := 0) (i := 0) hc rfl rfl dL_law_236 ?_
  refine R.iload_n (j := 3) (i := 3) hc rfl rfl dL_law_237 ?_
  refine R.iconst hc ic_1 dL_law_238 ?_
  refine R.iaddN hc dL_law_239 ?_
  refine R.sald hc dL_law_240 (show _ < L by omega) (show L < 2 ^ 31 by omega) ?_
  refine R.aload_n (j := 0) (i := 0) hc rfl rfl dL_law_241 ?_
  refine R.iload_n (j := 3) (i := 3) hc rfl rfl dL_law_242 ?_
  refine R.iconst hc ic_2 dL_law_243 ?_
  refine R.iaddN hc dL_law_244 ?_
  refine R.sald hc dL_law_245 (show _ < L by omega) (show L < 2 ^ 31 by omega) ?_
  refine R.aload_n (j := 0) (i := 0) hc rfl rfl dL_law_246 ?_
  refine R.iload_n (j := 3) (i := 3) hc rfl rfl dL_law_247 ?_
  refine R.iconst hc ic_3 dL_law_248 ?_
  refine R.iaddN hc dL_law_249 ?_
  refine R.sald hc dL_law_250 (show _ < L by omega) (show L < 2 ^ 31 by omega) ?_
  refine R.dVi hc m_X6_person lk_L_18 dL_law_251 (c_X6_person l 0 (L, xs) 59 hC hI _ _ _) hC.obj rfl rfl rfl (by omega) ⟨Nat.le_refl _, Nat.le_refl _⟩ (Nat.le_of_ble_eq_true rfl) (fun σ1 hX => ?_)
  obtain ⟨hP, hE⟩ := hX
  have hR := hR.ag (fun j h1 h2 => hE j (by omega))
  refine R.aload_n (j := 2) (i := 2) hc rfl rfl dL_law_254 ?_
  refine R.aload_n (j := 0) (i := 0) hc rfl rfl dL_law_255 ?_
  refine R.iload_n (j := 3) (i := 3) hc rfl rfl dL_law_256 ?_
  refine R.iconst hc ic_1 dL_law_257 ?_
  refine R.iaddN hc dL_law_258 ?_
  refine R.sald hc dL_law_259 (show _ < L by omega) (show L < 2 ^ 31 by omega) ?_
  refine R.aload_n (j := 0) (i := 0) hc rfl rfl dL_law_260 ?_
  refine R.iload_n (j := 3) (i := 3) hc rfl rfl dL_law_261 ?_
  refine R.iconst hc ic_2 dL_law_262 ?_
  refine R.iaddN hc dL_law_263 ?_
  refine R.sald hc dL_law_264 (show _ < L by omega) (show L < 2 ^ 31 by omega) ?_
  refine R.aload_n (j := 0) (i := 0) hc rfl rfl dL_law_265 ?_
  refine R.iload_n (j := 3) (i := 3) hc rfl rfl dL_law_266 ?_
  refine R.iconst hc ic_3 dL_law_267 ?_
  refine R.iaddN hc dL_law_268 ?_
  refine R.sald hc dL_law_269 (show _ < L by omega) (show L < 2 ^ 31 by omega) ?_
  refine R.dVi hc m_X7_person lk_L_21 dL_law_270 (c_X7_person l 0 (L, xs) 59 hR hI _ _ _) hR.obj rfl rfl rfl (by omega) ⟨Nat.le_refl _, Nat.le_refl _⟩ (Nat.le_of_ble_eq_true rfl) (fun σ2 hX => ?_)
  obtain ⟨hP2, hE2⟩ := hX
  refine R.icmp_eq (tgt := 1342) hc dL_law_273 (by decide) (fun _ => nxt σ2 ?_) (fun z => absurd rfl z)
  split at hP
  · rename_i h9
    rw [if_pos h9] at hP2
    exact LI.of hP hP2 hE2 (hI.person h9)
  · rename_i h9
    rw [if_neg h9] at hP2
    exact LI.of hP hP2 hE2 hI
set_option maxHeartbeats 4000000 in
set_option maxRecDepth 100000 in
theorem lw_show {cx : Cx} {l : Launch} {L : Nat} {xs : Nat → Int32} {Q : Option Value → Nat → Wd → Prop} (hc : cx = lw_cx l L xs Q) {i : Nat} {σ : Wd} (hi : i + 7 ≤ L) (hL : L ≤ 448) (hI : LI σ) (nxt : ∀ σ', LI σ' → R cx 59 1711 59 σ' 1342 (lw_ls i) []) : R cx 59 1711 59 σ 278 (lw_ls i) [] := by
  obtain ⟨a, np, nq, hr, dr, hs, im, tp, tl, ln, sz, it, hC, hR, hI⟩ := hI
  refine R.aload_n (j := 1) (i := 1) hc rfl rfl dL_law_278 ?_
  refine R.aload_n (j := 0) (i := 0) hc rfl rfl dL_law_279 ?_
  refine R.iload_n (j := 3) (i := 3) hc rfl rfl dL_law_280 ?_
  refine R.iconst hc ic_1 dL_law_281 ?_
  refine R.iaddN hc dL_law_282 ?_
  refine R.sald hc dL_law_283 (show _ < L by omega) (show L < 2 ^ 31 by omega) ?_
  refine R.aload_n (j := 0) (i := 0) hc rfl rfl dL_law_284 ?_
  refine R.iload_n (j := 3) (i := 3) hc rfl rfl dL_law_285 ?_
  refine R.iconst hc ic_2 dL_law_286 ?_
  refine R.iaddN hc dL_law_287 ?_
  refine R.sald hc dL_law_288 (show _ < L by omega) (show L < 2 ^ 31 by omega) ?_
  refine R.dVi hc m_X6_show lk_L_22 dL_law_289 (c_X6_show l 0 (L, xs) 59 hC hI _ _) hC.obj rfl rfl rfl (by omega) ⟨Nat.le_refl _, Nat.le_refl _⟩ (Nat.le_of_ble_eq_true rfl) (fun σ1 hX => ?_)
  obtain ⟨hP, hE⟩ := hX
  have hR := hR.ag (fun j h1 h2 => hE j (by omega))
  refine R.aload_n (j := 2) (i := 2) hc rfl rfl dL_law_292 ?_
  refine R.aload_n (j := 0) (i := 0) hc rfl rfl dL_law_293 ?_
  refine R.iload_n (j := 3) (i := 3) hc rfl rfl dL_law_294 ?_
  refine R.iconst hc ic_1 dL_law_295 ?_
  refine R.iaddN hc dL_law_296 ?_
  refine R.sald hc dL_law_297 (show _ < L by omega) (show L < 2 ^ 31 by omega) ?_
  refine R.aload_n (j := 0) (i := 0) hc rfl rfl dL_law_298 ?_
  refine R.iload_n (j := 3) (i := 3) hc rfl rfl dL_law_299 ?_
  refine R.iconst hc ic_2 dL_law_300 ?_
  refine R.iaddN hc dL_law_301 ?_
  refine R.sald hc dL_law_302 (show _ < L by omega) (show L < 2 ^ 31 by omega) ?_
  refine R.dVi hc m_X7_show lk_L_26 dL_law_303 (c_X7_show l 0 (L, xs) 59 hR hI _ _) hR.obj rfl rfl rfl (by omega) ⟨Nat.le_refl _, Nat.le_refl _⟩ (Nat.le_of_ble_eq_true rfl) (fun σ2 hX => ?_)
  obtain ⟨hP2, hE2⟩ := hX
  refine R.icmp_eq (tgt := 1342) hc dL_law_306 (by decide) (fun _ => nxt σ2 ?_) (fun z => absurd rfl z)
  split at hP
  · rename_i h9
    rw [if_pos h9] at hP2
    exact LI.of hP hP2 hE2 (hI.show h9)
  · rename_i h9
    rw [if_neg h9] at hP2
    exact LI.of hP hP2 hE2 hI
set_option maxHeartbeats 4000000 in
set_option maxRecDepth 100000 in
theorem lw_of {cx : Cx} {l : Launch} {L : Nat} {xs : Nat → Int32} {Q : Option Value → Nat → Wd → Prop} (hc : cx = lw_cx l L xs Q) {i : Nat} {σ : Wd} (hi : i + 7 ≤ L) (hL : L ≤ 448) (hI : LI σ) (nxt : ∀ σ', LI σ' → R cx 59 1711 59 σ' 1342 (lw_ls i) []) : R cx 59 1711 59 σ 311 (lw_ls i) [] := by
  obtain ⟨a, np, nq, hr, dr, hs, im, tp, tl, ln, sz, it, hC, hR, hI⟩ := hI
  refine R.aload_n (j := 1) (i := 1) hc rfl rfl dL_law_311 ?_
  refine R.aload_n (j := 0) (i := 0) hc rfl rfl dL_law_312 ?_
  refine R.iload_n (j := 3) (i := 3) hc rfl rfl dL_law_313 ?_
  refine R.iconst hc ic_1 dL_law_314 ?_
  refine R.iaddN hc dL_law_315 ?_
  refine R.sald hc dL_law_316 (show _ < L by omega) (show L < 2 ^ 31 by omega) ?_
  refine R.aload_n (j := 0) (i := 0) hc rfl rfl dL_law_317 ?_
  refine R.iload_n (j := 3) (i := 3) hc rfl rfl dL_law_318 ?_
  refine R.iconst hc ic_2 dL_law_319 ?_
  refine R.iaddN hc dL_law_320 ?_
  refine R.sald hc dL_law_321 (show _ < L by omega) (show L < 2 ^ 31 by omega) ?_
  refine R.dVi hc m_X6_of lk_L_27 dL_law_322 (c_X6_of l 0 (L, xs) 59 hC hI _ _) hC.obj rfl rfl rfl (by omega) ⟨Nat.le_refl _, Nat.le_refl _⟩ (Nat.le_of_ble_eq_true rfl) (fun σ1 hX => ?_)
  obtain ⟨hP, hE⟩ := hX
  have hR := hR.ag (fun j h1 h2 => hE j (by omega))
  refine R.aload_n (j := 2) (i := 2) hc rfl rfl dL_law_325 ?_
  refine R.aload_n (j := 0) (i := 0) hc rfl rfl dL_law_326 ?_
  refine R.iload_n (j := 3) (i := 3) hc rfl rfl dL_law_327 ?_
  refine R.iconst hc ic_1 dL_law_328 ?_
  refine R.iaddN hc dL_law_329 ?_
  refine R.sald hc dL_law_330 (show _ < L by omega) (show L < 2 ^ 31 by omega) ?_
  refine R.aload_n (j := 0) (i := 0) hc rfl rfl dL_law_331 ?_
  refine R.iload_n (j := 3) (i := 3) hc rfl rfl dL_law_332 ?_
  refine R.iconst hc ic_2 dL_law_333 ?_
  refine R.iaddN hc dL_law_334 ?_
  refine R.sald hc dL_law_335 (show _ < L by omega) (show L < 2 ^ 31 by omega) ?_
  refine R.dVi hc m_X7_of lk_L_30 dL_law_336 (c_X7_of l 0 (L, xs) 59 hR hI _ _) hR.obj rfl rfl rfl (by omega) ⟨Nat.le_refl _, Nat.le_refl _⟩ (Nat.le_of_ble_eq_true rfl) (fun σ2 hX => ?_)
  obtain ⟨hP2, hE2⟩ := hX
  refine R.icmp_eq (tgt := 1342) hc dL_law_339 (by decide) (fun _ => nxt σ2 ?_) (fun z => absurd rfl z)
  exact LI.of hP hP2 hE2 hI
set_option maxHeartbeats 4000000 in
set_option maxRecDepth 100000 in
theorem lw_at {cx : Cx} {l : Launch} {L : Nat} {xs : Nat → Int32} {Q : Option Value → Nat → Wd → Prop} (hc : cx = lw_cx l L xs Q) {i : Nat} {σ : Wd} (hi : i + 7 ≤ L) (hL : L ≤ 448) (hI : LI σ) (nxt : ∀ σ', LI σ' → R cx 59 1711 59 σ' 1342 (lw_ls i) []) : R cx 59 1711 59 σ 344 (lw_ls i) [] := by
  obtain ⟨a, np, nq, hr, dr, hs, im, tp, tl, ln, sz, it, hC, hR, hI⟩ := hI
  refine R.aload_n (j := 1) (i := 1) hc rfl rfl dL_law_344 ?_
  refine R.aload_n (j := 0) (i := 0) hc rfl rfl dL_law_345 ?_
  refine R.iload_n (j := 3) (i := 3) hc rfl rfl dL_law_346 ?_
  refine R.iconst hc ic_1 dL_law_347 ?_
  refine R.iaddN hc dL_law_348 ?_
  refine R.sald hc dL_law_349 (show _ < L by omega) (show L < 2 ^ 31 by omega) ?_
  refine R.aload_n (j := 0) (i := 0) hc rfl rfl dL_law_350 ?_
  refine R.iload_n (j := 3) (i := 3) hc rfl rfl dL_law_351 ?_
  refine R.iconst hc ic_2 dL_law_352 ?_
  refine R.iaddN hc dL_law_353 ?_
  refine R.sald hc dL_law_354 (show _ < L by omega) (show L < 2 ^ 31 by omega) ?_
  refine R.dVi hc m_X6_at lk_L_31 dL_law_355 (c_X6_at l 0 (L, xs) 59 hC hI _ _) hC.obj rfl rfl rfl (by omega) ⟨Nat.le_refl _, Nat.le_refl _⟩ (Nat.le_of_ble_eq_true rfl) (fun σ1 hX => ?_)
  obtain ⟨hP, hE⟩ := hX
  have hR := hR.ag (fun j h1 h2 => hE j (by omega))
  refine R.aload_n (j := 2) (i := 2) hc rfl rfl dL_law_358 ?_
  refine R.aload_n (j := 0) (i := 0) hc rfl rfl dL_law_359 ?_
  refine R.iload_n (j := 3) (i := 3) hc rfl rfl dL_law_360 ?_
  refine R.iconst hc ic_1 dL_law_361 ?_
  refine R.iaddN hc dL_law_362 ?_
  refine R.sald hc dL_law_363 (show _ < L by omega) (show L < 2 ^ 31 by omega) ?_
  refine R.aload_n (j := 0) (i := 0) hc rfl rfl dL_law_364 ?_
  refine R.iload_n (j := 3) (i := 3) hc rfl rfl dL_law_365 ?_
  refine R.iconst hc ic_2 dL_law_366 ?_
  refine R.iaddN hc dL_law_367 ?_
  refine R.sald hc dL_law_368 (show _ < L by omega) (show L < 2 ^ 31 by omega) ?_
  refine R.dVi hc m_X7_at lk_L_34 dL_law_369 (c_X7_at l 0 (L, xs) 59 hR hI _ _) hR.obj rfl rfl rfl (by omega) ⟨Nat.le_refl _, Nat.le_refl _⟩ (Nat.le_of_ble_eq_true rfl) (fun σ2 hX => ?_)
  obtain ⟨hP2, hE2⟩ := hX
  refine R.icmp_eq (tgt := 1342) hc dL_law_372 (by decide) (fun _ => nxt σ2 ?_) (fun z => absurd rfl z)
  exact LI.of hP hP2 hE2 hI
set_option maxHeartbeats 4000000 in
set_option maxRecDepth 100000 in
theorem lw_type {cx : Cx} {l : Launch} {L : Nat} {xs : Nat → Int32} {Q : Option Value → Nat → Wd → Prop} (hc : cx = lw_cx l L xs Q) {i : Nat} {σ : Wd} (hi : i + 7 ≤ L) (hL : L ≤ 448) (hI : LI σ) (nxt : ∀ σ', LI σ' → R cx 59 1711 59 σ' 1342 (lw_ls i) []) : R cx 59 1711 59 σ 377 (lw_ls i) [] := by
  obtain ⟨a, np, nq, hr, dr, hs, im, tp, tl, ln, sz, it, hC, hR, hI⟩ := hI
  refine R.aload_n (j := 1) (i := 1) hc rfl rfl dL_law_377 ?_
  refine R.aload_n (j := 0) (i := 0) hc rfl rfl dL_law_378 ?_
  refine R.iload_n (j := 3) (i := 3) hc rfl rfl dL_law_379 ?_
  refine R.iconst hc ic_1 dL_law_380 ?_
  refine R.iaddN hc dL_law_381 ?_
  refine R.sald hc dL_law_382 (show _ < L by omega) (show L < 2 ^ 31 by omega) ?_
  refine R.dVi hc m_X6_type lk_L_35 dL_law_383 (c_X6_type l 0 (L, xs) 59 hC hI _) hC.obj rfl rfl rfl (by omega) ⟨Nat.le_refl _, Nat.le_refl _⟩ (Nat.le_of_ble_eq_true rfl) (fun σ1 hX => ?_)
  obtain ⟨hP, hE⟩ := hX
  have hR := hR.ag (fun j h1 h2 => hE j (by omega))
  refine R.aload_n (j := 2) (i := 2) hc rfl rfl dL_law_386 ?_
  refine R.aload_n (j := 0) (i := 0) hc rfl rfl dL_law_387 ?_
  refine R.iload_n (j := 3) (i := 3) hc rfl rfl dL_law_388 ?_
  refine R.iconst hc ic_1 dL_law_389 ?_
  refine R.iaddN hc dL_law_390 ?_
  refine R.sald hc dL_law_391 (show _ < L by omega) (show L < 2 ^ 31 by omega) ?_
  refine R.dVi hc m_X7_type lk_L_39 dL_law_392 (c_X7_type l 0 (L, xs) 59 hR hI _) hR.obj rfl rfl rfl (by omega) ⟨Nat.le_refl _, Nat.le_refl _⟩ (Nat.le_of_ble_eq_true rfl) (fun σ2 hX => ?_)
  obtain ⟨hP2, hE2⟩ := hX
  refine R.icmp_eq (tgt := 1342) hc dL_law_395 (by decide) (fun _ => nxt σ2 ?_) (fun z => absurd rfl z)
  split at hP
  · rename_i h9
    rw [if_pos h9] at hP2
    exact LI.of hP hP2 hE2 (hI.type h9)
  · rename_i h9
    rw [if_neg h9] at hP2
    exact LI.of hP hP2 hE2 hI
set_option maxHeartbeats 4000000 in
set_option maxRecDepth 100000 in
theorem lw_read {cx : Cx} {l : Launch} {L : Nat} {xs : Nat → Int32} {Q : Option Value → Nat → Wd → Prop} (hc : cx = lw_cx l L xs Q) {i : Nat} {σ : Wd} (hi : i + 7 ≤ L) (hL : L ≤ 448) (hI : LI σ) (nxt : ∀ σ', LI σ' → R cx 59 1711 59 σ' 1342 (lw_ls i) []) : R cx 59 1711 59 σ 400 (lw_ls i) [] := by
  obtain ⟨a, np, nq, hr, dr, hs, im, tp, tl, ln, sz, it, hC, hR, hI⟩ := hI
  refine R.aload_n (j := 1) (i := 1) hc rfl rfl dL_law_400 ?_
  refine R.dVi hc m_X6_read lk_L_40 dL_law_401 (c_X6_read l 0 (L, xs) 59 hC hI ) hC.obj rfl rfl rfl (by omega) ⟨Nat.le_refl _, Nat.le_refl _⟩ (Nat.le_of_ble_eq_true rfl) (fun σ1 hX => ?_)
  obtain ⟨hP, hE⟩ := hX
  have hR := hR.ag (fun j h1 h2 => hE j (by omega))
  refine R.aload_n (j := 2) (i := 2) hc rfl rfl dL_law_404 ?_
  refine R.dVi hc m_X7_read lk_L_44 dL_law_405 (c_X7_read l 0 (L, xs) 59 hR hI ) hR.obj rfl rfl rfl (by omega) ⟨Nat.le_refl _, Nat.le_refl _⟩ (Nat.le_of_ble_eq_true rfl) (fun σ2 hX => ?_)
  obtain ⟨hP2, hE2⟩ := hX
  refine R.icmp_eq (tgt := 1342) hc dL_law_408 (by decide) (fun _ => nxt σ2 ?_) (fun z => absurd rfl z)
  cases h9 : readP tp tl with
  | inl f =>
    rw [h9] at hP hP2
    exact LI.of hP hP2 hE2 hI.tz
  | inr q =>
    rw [h9] at hP hP2
    exact LI.of hP hP2 hE2 (hI.read h9)
set_option maxHeartbeats 4000000 in
set_option maxRecDepth 100000 in
theorem lw_count {cx : Cx} {l : Launch} {L : Nat} {xs : Nat → Int32} {Q : Option Value → Nat → Wd → Prop} (hc : cx = lw_cx l L xs Q) {i : Nat} {σ : Wd} (hi : i + 7 ≤ L) (hL : L ≤ 448) (hI : LI σ) (nxt : ∀ σ', LI σ' → R cx 59 1711 59 σ' 1342 (lw_ls i) []) : R cx 59 1711 59 σ 413 (lw_ls i) [] := by
  obtain ⟨a, np, nq, hr, dr, hs, im, tp, tl, ln, sz, it, hC, hR, hI⟩ := hI
  refine R.aload_n (j := 1) (i := 1) hc rfl rfl dL_law_413 ?_
  refine R.aload_n (j := 0) (i := 0) hc rfl rfl dL_law_414 ?_
  refine R.iload_n (j := 3) (i := 3) hc rfl rfl dL_law_415 ?_
  refine R.iconst hc ic_1 dL_law_416 ?_
  refine R.iaddN hc dL_law_417 ?_
  refine R.sald hc dL_law_418 (show _ < L by omega) (show L < 2 ^ 31 by omega) ?_
  refine R.dVi hc m_X6_count lk_L_45 dL_law_419 (c_X6_count l 0 (L, xs) 59 hC hI _) hC.obj rfl rfl rfl (by omega) ⟨Nat.le_refl _, Nat.le_refl _⟩ (Nat.le_of_ble_eq_true rfl) (fun σ1 hX => ?_)
  obtain ⟨hP, hE⟩ := hX
  have hR := hR.ag (fun j h1 h2 => hE j (by omega))
  refine R.aload_n (j := 2) (i := 2) hc rfl rfl dL_law_422 ?_
  refine R.aload_n (j := 0) (i := 0) hc rfl rfl dL_law_423 ?_
  refine R.iload_n (j := 3) (i := 3) hc rfl rfl dL_law_424 ?_
  refine R.iconst hc ic_1 dL_law_425 ?_
  refine R.iaddN hc dL_law_426 ?_
  refine R.sald hc dL_law_427 (show _ < L by omega) (show L < 2 ^ 31 by omega) ?_
  refine R.dVi hc m_X7_count lk_L_48 dL_law_428 (c_X7_count l 0 (L, xs) 59 hR hI _) hR.obj rfl rfl rfl (by omega) ⟨Nat.le_refl _, Nat.le_refl _⟩ (Nat.le_of_ble_eq_true rfl) (fun σ2 hX => ?_)
  obtain ⟨hP2, hE2⟩ := hX
  refine R.icmp_eq (tgt := 1342) hc dL_law_431 (by decide) (fun _ => nxt σ2 ?_) (fun z => absurd rfl z)
  exact LI.of hP hP2 hE2 hI
set_option maxHeartbeats 4000000 in
set_option maxRecDepth 100000 in
theorem lw_hours {cx : Cx} {l : Launch} {L : Nat} {xs : Nat → Int32} {Q : Option Value → Nat → Wd → Prop} (hc : cx = lw_cx l L xs Q) {i : Nat} {σ : Wd} (hi : i + 7 ≤ L) (hL : L ≤ 448) (hI : LI σ) (nxt : ∀ σ', LI σ' → R cx 59 1711 59 σ' 1342 (lw_ls i) []) : R cx 59 1711 59 σ 436 (lw_ls i) [] := by
  obtain ⟨a, np, nq, hr, dr, hs, im, tp, tl, ln, sz, it, hC, hR, hI⟩ := hI
  refine R.aload_n (j := 1) (i := 1) hc rfl rfl dL_law_436 ?_
  refine R.aload_n (j := 0) (i := 0) hc rfl rfl dL_law_437 ?_
  refine R.iload_n (j := 3) (i := 3) hc rfl rfl dL_law_438 ?_
  refine R.iconst hc ic_1 dL_law_439 ?_
  refine R.iaddN hc dL_law_440 ?_
  refine R.sald hc dL_law_441 (show _ < L by omega) (show L < 2 ^ 31 by omega) ?_
  refine R.dVi hc m_X6_hours lk_L_49 dL_law_442 (c_X6_hours l 0 (L, xs) 59 hC hI _) hC.obj rfl rfl rfl (by omega) ⟨Nat.le_refl _, Nat.le_refl _⟩ (Nat.le_of_ble_eq_true rfl) (fun σ1 hX => ?_)
  obtain ⟨hP, hE⟩ := hX
  have hR := hR.ag (fun j h1 h2 => hE j (by omega))
  refine R.aload_n (j := 2) (i := 2) hc rfl rfl dL_law_445 ?_
  refine R.aload_n (j := 0) (i := 0) hc rfl rfl dL_law_446 ?_
  refine R.iload_n (j := 3) (i := 3) hc rfl rfl dL_law_447 ?_
  refine R.iconst hc ic_1 dL_law_448 ?_
  refine R.iaddN hc dL_law_449 ?_
  refine R.sald hc dL_law_450 (show _ < L by omega) (show L < 2 ^ 31 by omega) ?_
  refine R.dVi hc m_X7_hours lk_L_52 dL_law_451 (c_X7_hours l 0 (L, xs) 59 hR hI _) hR.obj rfl rfl rfl (by omega) ⟨Nat.le_refl _, Nat.le_refl _⟩ (Nat.le_of_ble_eq_true rfl) (fun σ2 hX => ?_)
  obtain ⟨hP2, hE2⟩ := hX
  refine R.icmp_eq (tgt := 1342) hc dL_law_454 (by decide) (fun _ => nxt σ2 ?_) (fun z => absurd rfl z)
  split at hP
  · rename_i h9
    rw [if_pos h9] at hP2
    exact LI.of hP hP2 hE2 (hI.hours h9)
  · rename_i h9
    rw [if_neg h9] at hP2
    exact LI.of hP hP2 hE2 hI
set_option maxHeartbeats 4000000 in
set_option maxRecDepth 100000 in
theorem lw_rain {cx : Cx} {l : Launch} {L : Nat} {xs : Nat → Int32} {Q : Option Value → Nat → Wd → Prop} (hc : cx = lw_cx l L xs Q) {i : Nat} {σ : Wd} (hi : i + 7 ≤ L) (hL : L ≤ 448) (hI : LI σ) (nxt : ∀ σ', LI σ' → R cx 59 1711 59 σ' 1342 (lw_ls i) []) : R cx 59 1711 59 σ 459 (lw_ls i) [] := by
  obtain ⟨a, np, nq, hr, dr, hs, im, tp, tl, ln, sz, it, hC, hR, hI⟩ := hI
  refine R.aload_n (j := 1) (i := 1) hc rfl rfl dL_law_459 ?_
  refine R.aload_n (j := 0) (i := 0) hc rfl rfl dL_law_460 ?_
  refine R.iload_n (j := 3) (i := 3) hc rfl rfl dL_law_461 ?_
  refine R.iconst hc ic_1 dL_law_462 ?_
  refine R.iaddN hc dL_law_463 ?_
  refine R.sald hc dL_law_464 (show _ < L by omega) (show L < 2 ^ 31 by omega) ?_
  refine R.dVi hc m_X6_rain lk_L_53 dL_law_465 (c_X6_rain l 0 (L, xs) 59 hC hI _) hC.obj rfl rfl rfl (by omega) ⟨Nat.le_refl _, Nat.le_refl _⟩ (Nat.le_of_ble_eq_true rfl) (fun σ1 hX => ?_)
  obtain ⟨hP, hE⟩ := hX
  have hR := hR.ag (fun j h1 h2 => hE j (by omega))
  refine R.aload_n (j := 2) (i := 2) hc rfl rfl dL_law_468 ?_
  refine R.aload_n (j := 0) (i := 0) hc rfl rfl dL_law_469 ?_
  refine R.iload_n (j := 3) (i := 3) hc rfl rfl dL_law_470 ?_
  refine R.iconst hc ic_1 dL_law_471 ?_
  refine R.iaddN hc dL_law_472 ?_
  refine R.sald hc dL_law_473 (show _ < L by omega) (show L < 2 ^ 31 by omega) ?_
  refine R.dVi hc m_X7_rain lk_L_56 dL_law_474 (c_X7_rain l 0 (L, xs) 59 hR hI _) hR.obj rfl rfl rfl (by omega) ⟨Nat.le_refl _, Nat.le_refl _⟩ (Nat.le_of_ble_eq_true rfl) (fun σ2 hX => ?_)
  obtain ⟨hP2, hE2⟩ := hX
  refine R.icmp_eq (tgt := 1342) hc dL_law_477 (by decide) (fun _ => nxt σ2 ?_) (fun z => absurd rfl z)
  split at hP
  · rename_i h9
    rw [if_pos h9] at hP2
    exact LI.of hP hP2 hE2 (hI.rem (WF_rainK hI.1))
  · rename_i h9
    rw [if_neg h9] at hP2
    exact LI.of hP hP2 hE2 hI
set_option maxHeartbeats 4000000 in
set_option maxRecDepth 100000 in
theorem lw_drive {cx : Cx} {l : Launch} {L : Nat} {xs : Nat → Int32} {Q : Option Value → Nat → Wd → Prop} (hc : cx = lw_cx l L xs Q) {i : Nat} {σ : Wd} (hi : i + 7 ≤ L) (hL : L ≤ 448) (hI : LI σ) (nxt : ∀ σ', LI σ' → R cx 59 1711 59 σ' 1342 (lw_ls i) []) : R cx 59 1711 59 σ 482 (lw_ls i) [] := by
  obtain ⟨a, np, nq, hr, dr, hs, im, tp, tl, ln, sz, it, hC, hR, hI⟩ := hI
  refine R.aload_n (j := 1) (i := 1) hc rfl rfl dL_law_482 ?_
  refine R.aload_n (j := 0) (i := 0) hc rfl rfl dL_law_483 ?_
  refine R.iload_n (j := 3) (i := 3) hc rfl rfl dL_law_484 ?_
  refine R.iconst hc ic_1 dL_law_485 ?_
  refine R.iaddN hc dL_law_486 ?_
  refine R.sald hc dL_law_487 (show _ < L by omega) (show L < 2 ^ 31 by omega) ?_
  refine R.dVi hc m_X6_drive lk_L_57 dL_law_488 (c_X6_drive l 0 (L, xs) 59 hC hI _) hC.obj rfl rfl rfl (by omega) ⟨Nat.le_refl _, Nat.le_refl _⟩ (Nat.le_of_ble_eq_true rfl) (fun σ1 hX => ?_)
  obtain ⟨hP, hE⟩ := hX
  have hR := hR.ag (fun j h1 h2 => hE j (by omega))
  refine R.aload_n (j := 2) (i := 2) hc rfl rfl dL_law_491 ?_
  refine R.aload_n (j := 0) (i := 0) hc rfl rfl dL_law_492 ?_
  refine R.iload_n (j := 3) (i := 3) hc rfl rfl dL_law_493 ?_
  refine R.iconst hc ic_1 dL_law_494 ?_
  refine R.iaddN hc dL_law_495 ?_
  refine R.sald hc dL_law_496 (show _ < L by omega) (show L < 2 ^ 31 by omega) ?_
  refine R.dVi hc m_X7_drive lk_L_60 dL_law_497 (c_X7_drive l 0 (L, xs) 59 hR hI _) hR.obj rfl rfl rfl (by omega) ⟨Nat.le_refl _, Nat.le_refl _⟩ (Nat.le_of_ble_eq_true rfl) (fun σ2 hX => ?_)
  obtain ⟨hP2, hE2⟩ := hX
  refine R.icmp_eq (tgt := 1342) hc dL_law_500 (by decide) (fun _ => nxt σ2 ?_) (fun z => absurd rfl z)
  split at hP
  · rename_i h9
    rw [if_pos h9] at hP2
    exact LI.of hP hP2 hE2 (hI.rem (WF_half hI.1))
  · rename_i h9
    rw [if_neg h9] at hP2
    exact LI.of hP hP2 hE2 hI
set_option maxHeartbeats 4000000 in
set_option maxRecDepth 100000 in
theorem lw_send {cx : Cx} {l : Launch} {L : Nat} {xs : Nat → Int32} {Q : Option Value → Nat → Wd → Prop} (hc : cx = lw_cx l L xs Q) {i : Nat} {σ : Wd} (hi : i + 7 ≤ L) (hL : L ≤ 448) (hI : LI σ) (nxt : ∀ σ', LI σ' → R cx 59 1711 59 σ' 1342 (lw_ls i) []) : R cx 59 1711 59 σ 505 (lw_ls i) [] := by
  obtain ⟨a, np, nq, hr, dr, hs, im, tp, tl, ln, sz, it, hC, hR, hI⟩ := hI
  refine R.aload_n (j := 1) (i := 1) hc rfl rfl dL_law_505 ?_
  refine R.aload_n (j := 0) (i := 0) hc rfl rfl dL_law_506 ?_
  refine R.iload_n (j := 3) (i := 3) hc rfl rfl dL_law_507 ?_
  refine R.iconst hc ic_1 dL_law_508 ?_
  refine R.iaddN hc dL_law_509 ?_
  refine R.sald hc dL_law_510 (show _ < L by omega) (show L < 2 ^ 31 by omega) ?_
  refine R.dVi hc m_X6_send lk_L_61 dL_law_511 (c_X6_send l 0 (L, xs) 59 hC hI _) hC.obj rfl rfl rfl (by omega) ⟨Nat.le_refl _, Nat.le_refl _⟩ (Nat.le_of_ble_eq_true rfl) (fun σ1 hX => ?_)
  obtain ⟨hP, hE⟩ := hX
  have hR := hR.ag (fun j h1 h2 => hE j (by omega))
  refine R.aload_n (j := 2) (i := 2) hc rfl rfl dL_law_514 ?_
  refine R.aload_n (j := 0) (i := 0) hc rfl rfl dL_law_515 ?_
  refine R.iload_n (j := 3) (i := 3) hc rfl rfl dL_law_516 ?_
  refine R.iconst hc ic_1 dL_law_517 ?_
  refine R.iaddN hc dL_law_518 ?_
  refine R.sald hc dL_law_519 (show _ < L by omega) (show L < 2 ^ 31 by omega) ?_
  refine R.dVi hc m_X7_send lk_L_64 dL_law_520 (c_X7_send l 0 (L, xs) 59 hR hI _) hR.obj rfl rfl rfl (by omega) ⟨Nat.le_refl _, Nat.le_refl _⟩ (Nat.le_of_ble_eq_true rfl) (fun σ2 hX => ?_)
  obtain ⟨hP2, hE2⟩ := hX
  refine R.icmp_eq (tgt := 1342) hc dL_law_523 (by decide) (fun _ => nxt σ2 ?_) (fun z => absurd rfl z)
  split at hP
  · rename_i h9
    rw [if_pos h9] at hP2
    exact LI.of hP hP2 hE2 (hI.send)
  · rename_i h9
    rw [if_neg h9] at hP2
    exact LI.of hP hP2 hE2 hI
set_option maxHeartbeats 4000000 in
set_option maxRecDepth 100000 in
theorem lw_later {cx : Cx} {l : Launch} {L : Nat} {xs : Nat → Int32} {Q : Option Value → Nat → Wd → Prop} (hc : cx = lw_cx l L xs Q) {i : Nat} {σ : Wd} (hi : i + 7 ≤ L) (hL : L ≤ 448) (hI : LI σ) (nxt : ∀ σ', LI σ' → R cx 59 1711 59 σ' 1342 (lw_ls i) []) : R cx 59 1711 59 σ 528 (lw_ls i) [] := by
  obtain ⟨a, np, nq, hr, dr, hs, im, tp, tl, ln, sz, it, hC, hR, hI⟩ := hI
  refine R.aload_n (j := 1) (i := 1) hc rfl rfl dL_law_528 ?_
  refine R.aload_n (j := 0) (i := 0) hc rfl rfl dL_law_529 ?_
  refine R.iload_n (j := 3) (i := 3) hc rfl rfl dL_law_530 ?_
  refine R.iconst hc ic_1 dL_law_531 ?_
  refine R.iaddN hc dL_law_532 ?_
  refine R.sald hc dL_law_533 (show _ < L by omega) (show L < 2 ^ 31 by omega) ?_
  refine R.aload_n (j := 0) (i := 0) hc rfl rfl dL_law_534 ?_
  refine R.iload_n (j := 3) (i := 3) hc rfl rfl dL_law_535 ?_
  refine R.iconst hc ic_2 dL_law_536 ?_
  refine R.iaddN hc dL_law_537 ?_
  refine R.sald hc dL_law_538 (show _ < L by omega) (show L < 2 ^ 31 by omega) ?_
  refine R.dVi hc m_X6_later lk_L_65 dL_law_539 (c_X6_later l 0 (L, xs) 59 hC hI _ _) hC.obj rfl rfl rfl (by omega) ⟨Nat.le_refl _, Nat.le_refl _⟩ (Nat.le_of_ble_eq_true rfl) (fun σ1 hX => ?_)
  obtain ⟨hP, hE⟩ := hX
  have hR := hR.ag (fun j h1 h2 => hE j (by omega))
  refine R.aload_n (j := 2) (i := 2) hc rfl rfl dL_law_542 ?_
  refine R.aload_n (j := 0) (i := 0) hc rfl rfl dL_law_543 ?_
  refine R.iload_n (j := 3) (i := 3) hc rfl rfl dL_law_544 ?_
  refine R.iconst hc ic_1 dL_law_545 ?_
  refine R.iaddN hc dL_law_546 ?_
  refine R.sald hc dL_law_547 (show _ < L by omega) (show L < 2 ^ 31 by omega) ?_
  refine R.aload_n (j := 0) (i := 0) hc rfl rfl dL_law_548 ?_
  refine R.iload_n (j := 3) (i := 3) hc rfl rfl dL_law_549 ?_
  refine R.iconst hc ic_2 dL_law_550 ?_
  refine R.iaddN hc dL_law_551 ?_
  refine R.sald hc dL_law_552 (show _ < L by omega) (show L < 2 ^ 31 by omega) ?_
  refine R.dVi hc m_X7_later lk_L_68 dL_law_553 (c_X7_later l 0 (L, xs) 59 hR hI _ _) hR.obj rfl rfl rfl (by omega) ⟨Nat.le_refl _, Nat.le_refl _⟩ (Nat.le_of_ble_eq_true rfl) (fun σ2 hX => ?_)
  obtain ⟨hP2, hE2⟩ := hX
  refine R.icmp_eq (tgt := 1342) hc dL_law_556 (by decide) (fun _ => nxt σ2 ?_) (fun z => absurd rfl z)
  split at hP
  · rename_i h9
    rw [if_pos h9] at hP2
    exact LI.of hP hP2 hE2 (hI.later h9)
  · rename_i h9
    rw [if_neg h9] at hP2
    exact LI.of hP hP2 hE2 hI
set_option maxHeartbeats 4000000 in
set_option maxRecDepth 100000 in
theorem lw_drift {cx : Cx} {l : Launch} {L : Nat} {xs : Nat → Int32} {Q : Option Value → Nat → Wd → Prop} (hc : cx = lw_cx l L xs Q) {i : Nat} {σ : Wd} (hi : i + 7 ≤ L) (hL : L ≤ 448) (hI : LI σ) (nxt : ∀ σ', LI σ' → R cx 59 1711 59 σ' 1342 (lw_ls i) []) : R cx 59 1711 59 σ 561 (lw_ls i) [] := by
  obtain ⟨a, np, nq, hr, dr, hs, im, tp, tl, ln, sz, it, hC, hR, hI⟩ := hI
  refine R.aload_n (j := 1) (i := 1) hc rfl rfl dL_law_561 ?_
  refine R.aload_n (j := 0) (i := 0) hc rfl rfl dL_law_562 ?_
  refine R.iload_n (j := 3) (i := 3) hc rfl rfl dL_law_563 ?_
  refine R.iconst hc ic_1 dL_law_564 ?_
  refine R.iaddN hc dL_law_565 ?_
  refine R.sald hc dL_law_566 (show _ < L by omega) (show L < 2 ^ 31 by omega) ?_
  refine R.dVi hc m_X6_drift lk_L_69 dL_law_567 (c_X6_drift l 0 (L, xs) 59 hC hI _) hC.obj rfl rfl rfl (by omega) ⟨Nat.le_refl _, Nat.le_refl _⟩ (Nat.le_of_ble_eq_true rfl) (fun σ1 hX => ?_)
  obtain ⟨hP, hE⟩ := hX
  have hR := hR.ag (fun j h1 h2 => hE j (by omega))
  refine R.aload_n (j := 2) (i := 2) hc rfl rfl dL_law_570 ?_
  refine R.aload_n (j := 0) (i := 0) hc rfl rfl dL_law_571 ?_
  refine R.iload_n (j := 3) (i := 3) hc rfl rfl dL_law_572 ?_
  refine R.iconst hc ic_1 dL_law_573 ?_
  refine R.iaddN hc dL_law_574 ?_
  refine R.sald hc dL_law_575 (show _ < L by omega) (show L < 2 ^ 31 by omega) ?_
  refine R.dVi hc m_X7_drift lk_L_72 dL_law_576 (c_X7_drift l 0 (L, xs) 59 hR hI _) hR.obj rfl rfl rfl (by omega) ⟨Nat.le_refl _, Nat.le_refl _⟩ (Nat.le_of_ble_eq_true rfl) (fun σ2 hX => ?_)
  obtain ⟨hP2, hE2⟩ := hX
  refine R.icmp_eq (tgt := 1342) hc dL_law_579 (by decide) (fun _ => nxt σ2 ?_) (fun z => absurd rfl z)
  split at hP
  · rename_i h9
    rw [if_pos h9] at hP2
    exact LI.of hP hP2 hE2 (hI.hours h9)
  · rename_i h9
    rw [if_neg h9] at hP2
    exact LI.of hP hP2 hE2 hI
set_option maxHeartbeats 4000000 in
set_option maxRecDepth 100000 in
theorem lw_undo {cx : Cx} {l : Launch} {L : Nat} {xs : Nat → Int32} {Q : Option Value → Nat → Wd → Prop} (hc : cx = lw_cx l L xs Q) {i : Nat} {σ : Wd} (hi : i + 7 ≤ L) (hL : L ≤ 448) (hI : LI σ) (nxt : ∀ σ', LI σ' → R cx 59 1711 59 σ' 1342 (lw_ls i) []) : R cx 59 1711 59 σ 584 (lw_ls i) [] := by
  obtain ⟨a, np, nq, hr, dr, hs, im, tp, tl, ln, sz, it, hC, hR, hI⟩ := hI
  refine R.aload_n (j := 1) (i := 1) hc rfl rfl dL_law_584 ?_
  refine R.dVi hc m_X6_undo lk_L_73 dL_law_585 (c_X6_undo l 0 (L, xs) 59 hC hI ) hC.obj rfl rfl rfl (by omega) ⟨Nat.le_refl _, Nat.le_refl _⟩ (Nat.le_of_ble_eq_true rfl) (fun σ1 hX => ?_)
  obtain ⟨hP, hE⟩ := hX
  have hR := hR.ag (fun j h1 h2 => hE j (by omega))
  refine R.aload_n (j := 2) (i := 2) hc rfl rfl dL_law_588 ?_
  refine R.dVi hc m_X7_undo lk_L_76 dL_law_589 (c_X7_undo l 0 (L, xs) 59 hR hI ) hR.obj rfl rfl rfl (by omega) ⟨Nat.le_refl _, Nat.le_refl _⟩ (Nat.le_of_ble_eq_true rfl) (fun σ2 hX => ?_)
  obtain ⟨hP2, hE2⟩ := hX
  refine R.icmp_eq (tgt := 1342) hc dL_law_592 (by decide) (fun _ => nxt σ2 ?_) (fun z => absurd rfl z)
  cases hs with
  | nil => exact LI.of hP hP2 hE2 hI
  | cons s t => exact LI.of hP hP2 hE2 hI.undo
set_option maxHeartbeats 4000000 in
set_option maxRecDepth 100000 in
theorem lw_seed {cx : Cx} {l : Launch} {L : Nat} {xs : Nat → Int32} {Q : Option Value → Nat → Wd → Prop} (hc : cx = lw_cx l L xs Q) {i : Nat} {σ : Wd} (hi : i + 7 ≤ L) (hL : L ≤ 448) (hI : LI σ) (nxt : ∀ σ', LI σ' → R cx 59 1711 59 σ' 1342 (lw_ls i) []) : R cx 59 1711 59 σ 597 (lw_ls i) [] := by
  obtain ⟨a, np, nq, hr, dr, hs, im, tp, tl, ln, sz, it, hC, hR, hI⟩ := hI
  refine R.aload_n (j := 1) (i := 1) hc rfl rfl dL_law_597 ?_
  refine R.aload_n (j := 0) (i := 0) hc rfl rfl dL_law_598 ?_
  refine R.iload_n (j := 3) (i := 3) hc rfl rfl dL_law_599 ?_
  refine R.iconst hc ic_1 dL_law_600 ?_
  refine R.iaddN hc dL_law_601 ?_
  refine R.sald hc dL_law_602 (show _ < L by omega) (show L < 2 ^ 31 by omega) ?_
  refine R.dVi hc m_X6_seed lk_L_77 dL_law_603 (c_X6_seed l 0 (L, xs) 59 hC hI _) hC.obj rfl rfl rfl (by omega) ⟨Nat.le_refl _, Nat.le_refl _⟩ (Nat.le_of_ble_eq_true rfl) (fun σ1 hX => ?_)
  obtain ⟨hP, hE⟩ := hX
  have hR := hR.ag (fun j h1 h2 => hE j (by omega))
  refine R.aload_n (j := 2) (i := 2) hc rfl rfl dL_law_606 ?_
  refine R.aload_n (j := 0) (i := 0) hc rfl rfl dL_law_607 ?_
  refine R.iload_n (j := 3) (i := 3) hc rfl rfl dL_law_608 ?_
  refine R.iconst hc ic_1 dL_law_609 ?_
  refine R.iaddN hc dL_law_610 ?_
  refine R.sald hc dL_law_611 (show _ < L by omega) (show L < 2 ^ 31 by omega) ?_
  refine R.dVi hc m_X7_seed lk_L_80 dL_law_612 (c_X7_seed l 0 (L, xs) 59 hR hI _) hR.obj rfl rfl rfl (by omega) ⟨Nat.le_refl _, Nat.le_refl _⟩ (Nat.le_of_ble_eq_true rfl) (fun σ2 hX => ?_)
  obtain ⟨hP2, hE2⟩ := hX
  refine R.icmp_eq (tgt := 1342) hc dL_law_615 (by decide) (fun _ => nxt σ2 ?_) (fun z => absurd rfl z)
  split at hP
  · rename_i h9
    rw [if_pos h9] at hP2
    exact LI.of hP hP2 hE2 (hI.seed h9)
  · rename_i h9
    rw [if_neg h9] at hP2
    exact LI.of hP hP2 hE2 hI
set_option maxHeartbeats 4000000 in
set_option maxRecDepth 100000 in
theorem lw_ahead {cx : Cx} {l : Launch} {L : Nat} {xs : Nat → Int32} {Q : Option Value → Nat → Wd → Prop} (hc : cx = lw_cx l L xs Q) {i : Nat} {σ : Wd} (hi : i + 7 ≤ L) (hL : L ≤ 448) (hI : LI σ) (nxt : ∀ σ', LI σ' → R cx 59 1711 59 σ' 1342 (lw_ls i) []) : R cx 59 1711 59 σ 620 (lw_ls i) [] := by
  obtain ⟨a, np, nq, hr, dr, hs, im, tp, tl, ln, sz, it, hC, hR, hI⟩ := hI
  refine R.aload_n (j := 1) (i := 1) hc rfl rfl dL_law_620 ?_
  refine R.aload_n (j := 0) (i := 0) hc rfl rfl dL_law_621 ?_
  refine R.iload_n (j := 3) (i := 3) hc rfl rfl dL_law_622 ?_
  refine R.iconst hc ic_1 dL_law_623 ?_
  refine R.iaddN hc dL_law_624 ?_
  refine R.sald hc dL_law_625 (show _ < L by omega) (show L < 2 ^ 31 by omega) ?_
  refine R.aload_n (j := 0) (i := 0) hc rfl rfl dL_law_626 ?_
  refine R.iload_n (j := 3) (i := 3) hc rfl rfl dL_law_627 ?_
  refine R.iconst hc ic_2 dL_law_628 ?_
  refine R.iaddN hc dL_law_629 ?_
  refine R.sald hc dL_law_630 (show _ < L by omega) (show L < 2 ^ 31 by omega) ?_
  refine R.dVi hc m_X6_ahead lk_L_81 dL_law_631 (c_X6_ahead l 0 (L, xs) 59 hC hI _ _) hC.obj rfl rfl rfl (by omega) ⟨Nat.le_refl _, Nat.le_refl _⟩ (Nat.le_of_ble_eq_true rfl) (fun σ1 hX => ?_)
  obtain ⟨hP, hE⟩ := hX
  have hR := hR.ag (fun j h1 h2 => hE j (by omega))
  refine R.aload_n (j := 2) (i := 2) hc rfl rfl dL_law_634 ?_
  refine R.aload_n (j := 0) (i := 0) hc rfl rfl dL_law_635 ?_
  refine R.iload_n (j := 3) (i := 3) hc rfl rfl dL_law_636 ?_
  refine R.iconst hc ic_1 dL_law_637 ?_
  refine R.iaddN hc dL_law_638 ?_
  refine R.sald hc dL_law_639 (show _ < L by omega) (show L < 2 ^ 31 by omega) ?_
  refine R.aload_n (j := 0) (i := 0) hc rfl rfl dL_law_640 ?_
  refine R.iload_n (j := 3) (i := 3) hc rfl rfl dL_law_641 ?_
  refine R.iconst hc ic_2 dL_law_642 ?_
  refine R.iaddN hc dL_law_643 ?_
  refine R.sald hc dL_law_644 (show _ < L by omega) (show L < 2 ^ 31 by omega) ?_
  refine R.dVi hc m_X7_ahead lk_L_84 dL_law_645 (c_X7_ahead l 0 (L, xs) 59 hR hI _ _) hR.obj rfl rfl rfl (by omega) ⟨Nat.le_refl _, Nat.le_refl _⟩ (Nat.le_of_ble_eq_true rfl) (fun σ2 hX => ?_)
  obtain ⟨hP2, hE2⟩ := hX
  refine R.icmp_eq (tgt := 1342) hc dL_law_648 (by decide) (fun _ => nxt σ2 ?_) (fun z => absurd rfl z)
  exact LI.of hP hP2 hE2 hI
set_option maxHeartbeats 4000000 in
set_option maxRecDepth 100000 in
theorem lw_claims {cx : Cx} {l : Launch} {L : Nat} {xs : Nat → Int32} {Q : Option Value → Nat → Wd → Prop} (hc : cx = lw_cx l L xs Q) {i : Nat} {σ : Wd} (hi : i + 7 ≤ L) (hL : L ≤ 448) (hI : LI σ) (nxt : ∀ σ', LI σ' → R cx 59 1711 59 σ' 1342 (lw_ls i) []) : R cx 59 1711 59 σ 653 (lw_ls i) [] := by
  obtain ⟨a, np, nq, hr, dr, hs, im, tp, tl, ln, sz, it, hC, hR, hI⟩ := hI
  refine R.aload_n (j := 1) (i := 1) hc rfl rfl dL_law_653 ?_
  refine R.aload_n (j := 0) (i := 0) hc rfl rfl dL_law_654 ?_
  refine R.iload_n (j := 3) (i := 3) hc rfl rfl dL_law_655 ?_
  refine R.iconst hc ic_1 dL_law_656 ?_
  refine R.iaddN hc dL_law_657 ?_
  refine R.sald hc dL_law_658 (show _ < L by omega) (show L < 2 ^ 31 by omega) ?_
  refine R.aload_n (j := 0) (i := 0) hc rfl rfl dL_law_659 ?_
  refine R.iload_n (j := 3) (i := 3) hc rfl rfl dL_law_660 ?_
  refine R.iconst hc ic_2 dL_law_661 ?_
  refine R.iaddN hc dL_law_662 ?_
  refine R.sald hc dL_law_663 (show _ < L by omega) (show L < 2 ^ 31 by omega) ?_
  refine R.dVi hc m_X6_claims lk_L_85 dL_law_664 (c_X6_claims l 0 (L, xs) 59 hC hI _ _) hC.obj rfl rfl rfl (by omega) ⟨Nat.le_refl _, Nat.le_refl _⟩ (Nat.le_of_ble_eq_true rfl) (fun σ1 hX => ?_)
  obtain ⟨hP, hE⟩ := hX
  have hR := hR.ag (fun j h1 h2 => hE j (by omega))
  refine R.aload_n (j := 2) (i := 2) hc rfl rfl dL_law_667 ?_
  refine R.aload_n (j := 0) (i := 0) hc rfl rfl dL_law_668 ?_
  refine R.iload_n (j := 3) (i := 3) hc rfl rfl dL_law_669 ?_
  refine R.iconst hc ic_1 dL_law_670 ?_
  refine R.iaddN hc dL_law_671 ?_
  refine R.sald hc dL_law_672 (show _ < L by omega) (show L < 2 ^ 31 by omega) ?_
  refine R.aload_n (j := 0) (i := 0) hc rfl rfl dL_law_673 ?_
  refine R.iload_n (j := 3) (i := 3) hc rfl rfl dL_law_674 ?_
  refine R.iconst hc ic_2 dL_law_675 ?_
  refine R.iaddN hc dL_law_676 ?_
  refine R.sald hc dL_law_677 (show _ < L by omega) (show L < 2 ^ 31 by omega) ?_
  refine R.dVi hc m_X7_claims lk_L_88 dL_law_678 (c_X7_claims l 0 (L, xs) 59 hR hI _ _) hR.obj rfl rfl rfl (by omega) ⟨Nat.le_refl _, Nat.le_refl _⟩ (Nat.le_of_ble_eq_true rfl) (fun σ2 hX => ?_)
  obtain ⟨hP2, hE2⟩ := hX
  refine R.icmp_eq (tgt := 1342) hc dL_law_681 (by decide) (fun _ => nxt σ2 ?_) (fun z => absurd rfl z)
  exact LI.of hP hP2 hE2 hI
set_option maxHeartbeats 4000000 in
set_option maxRecDepth 100000 in
theorem lw_then {cx : Cx} {l : Launch} {L : Nat} {xs : Nat → Int32} {Q : Option Value → Nat → Wd → Prop} (hc : cx = lw_cx l L xs Q) {i : Nat} {σ : Wd} (hi : i + 7 ≤ L) (hL : L ≤ 448) (hI : LI σ) (nxt : ∀ σ', LI σ' → R cx 59 1711 59 σ' 1342 (lw_ls i) []) : R cx 59 1711 59 σ 686 (lw_ls i) [] := by
  obtain ⟨a, np, nq, hr, dr, hs, im, tp, tl, ln, sz, it, hC, hR, hI⟩ := hI
  refine R.aload_n (j := 1) (i := 1) hc rfl rfl dL_law_686 ?_
  refine R.aload_n (j := 0) (i := 0) hc rfl rfl dL_law_687 ?_
  refine R.iload_n (j := 3) (i := 3) hc rfl rfl dL_law_688 ?_
  refine R.iconst hc ic_1 dL_law_689 ?_
  refine R.iaddN hc dL_law_690 ?_
  refine R.sald hc dL_law_691 (show _ < L by omega) (show L < 2 ^ 31 by omega) ?_
  refine R.dVi hc m_X6_then lk_L_89 dL_law_692 (c_X6_then l 0 (L, xs) 59 hC hI _) hC.obj rfl rfl rfl (by omega) ⟨Nat.le_refl _, Nat.le_refl _⟩ (Nat.le_of_ble_eq_true rfl) (fun σ1 hX => ?_)
  obtain ⟨hP, hE⟩ := hX
  have hR := hR.ag (fun j h1 h2 => hE j (by omega))
  refine R.aload_n (j := 2) (i := 2) hc rfl rfl dL_law_695 ?_
  refine R.aload_n (j := 0) (i := 0) hc rfl rfl dL_law_696 ?_
  refine R.iload_n (j := 3) (i := 3) hc rfl rfl dL_law_697 ?_
  refine R.iconst hc ic_1 dL_law_698 ?_
  refine R.iaddN hc dL_law_699 ?_
  refine R.sald hc dL_law_700 (show _ < L by omega) (show L < 2 ^ 31 by omega) ?_
  refine R.dVi hc m_X7_then lk_L_92 dL_law_701 (c_X7_then l 0 (L, xs) 59 hR hI _) hR.obj rfl rfl rfl (by omega) ⟨Nat.le_refl _, Nat.le_refl _⟩ (Nat.le_of_ble_eq_true rfl) (fun σ2 hX => ?_)
  obtain ⟨hP2, hE2⟩ := hX
  refine R.icmp_eq (tgt := 1342) hc dL_law_704 (by decide) (fun _ => nxt σ2 ?_) (fun z => absurd rfl z)
  exact LI.of hP hP2 hE2 hI
set_option maxHeartbeats 4000000 in
set_option maxRecDepth 100000 in
theorem lw_served {cx : Cx} {l : Launch} {L : Nat} {xs : Nat → Int32} {Q : Option Value → Nat → Wd → Prop} (hc : cx = lw_cx l L xs Q) {i : Nat} {σ : Wd} (hi : i + 7 ≤ L) (hL : L ≤ 448) (hI : LI σ) (nxt : ∀ σ', LI σ' → R cx 59 1711 59 σ' 1342 (lw_ls i) []) : R cx 59 1711 59 σ 709 (lw_ls i) [] := by
  obtain ⟨a, np, nq, hr, dr, hs, im, tp, tl, ln, sz, it, hC, hR, hI⟩ := hI
  refine R.aload_n (j := 1) (i := 1) hc rfl rfl dL_law_709 ?_
  refine R.aload_n (j := 0) (i := 0) hc rfl rfl dL_law_710 ?_
  refine R.iload_n (j := 3) (i := 3) hc rfl rfl dL_law_711 ?_
  refine R.iconst hc ic_1 dL_law_712 ?_
  refine R.iaddN hc dL_law_713 ?_
  refine R.sald hc dL_law_714 (show _ < L by omega) (show L < 2 ^ 31 by omega) ?_
  refine R.dVi hc m_X6_served lk_L_93 dL_law_715 (c_X6_served l 0 (L, xs) 59 hC hI _) hC.obj rfl rfl rfl (by omega) ⟨Nat.le_refl _, Nat.le_refl _⟩ (Nat.le_of_ble_eq_true rfl) (fun σ1 hX => ?_)
  obtain ⟨hP, hE⟩ := hX
  have hR := hR.ag (fun j h1 h2 => hE j (by omega))
  refine R.aload_n (j := 2) (i := 2) hc rfl rfl dL_law_718 ?_
  refine R.aload_n (j := 0) (i := 0) hc rfl rfl dL_law_719 ?_
  refine R.iload_n (j := 3) (i := 3) hc rfl rfl dL_law_720 ?_
  refine R.iconst hc ic_1 dL_law_721 ?_
  refine R.iaddN hc dL_law_722 ?_
  refine R.sald hc dL_law_723 (show _ < L by omega) (show L < 2 ^ 31 by omega) ?_
  refine R.dVi hc m_X7_served lk_L_96 dL_law_724 (c_X7_served l 0 (L, xs) 59 hR hI _) hR.obj rfl rfl rfl (by omega) ⟨Nat.le_refl _, Nat.le_refl _⟩ (Nat.le_of_ble_eq_true rfl) (fun σ2 hX => ?_)
  obtain ⟨hP2, hE2⟩ := hX
  refine R.icmp_eq (tgt := 1342) hc dL_law_727 (by decide) (fun _ => nxt σ2 ?_) (fun z => absurd rfl z)
  exact LI.of hP hP2 hE2 hI
set_option maxHeartbeats 4000000 in
set_option maxRecDepth 100000 in
theorem lw_dries {cx : Cx} {l : Launch} {L : Nat} {xs : Nat → Int32} {Q : Option Value → Nat → Wd → Prop} (hc : cx = lw_cx l L xs Q) {i : Nat} {σ : Wd} (hi : i + 7 ≤ L) (hL : L ≤ 448) (hI : LI σ) (nxt : ∀ σ', LI σ' → R cx 59 1711 59 σ' 1342 (lw_ls i) []) : R cx 59 1711 59 σ 732 (lw_ls i) [] := by
  obtain ⟨a, np, nq, hr, dr, hs, im, tp, tl, ln, sz, it, hC, hR, hI⟩ := hI
  refine R.aload_n (j := 1) (i := 1) hc rfl rfl dL_law_732 ?_
  refine R.aload_n (j := 0) (i := 0) hc rfl rfl dL_law_733 ?_
  refine R.iload_n (j := 3) (i := 3) hc rfl rfl dL_law_734 ?_
  refine R.iconst hc ic_1 dL_law_735 ?_
  refine R.iaddN hc dL_law_736 ?_
  refine R.sald hc dL_law_737 (show _ < L by omega) (show L < 2 ^ 31 by omega) ?_
  refine R.dVi hc m_X6_dries lk_L_97 dL_law_738 (c_X6_dries l 0 (L, xs) 59 hC hI _) hC.obj rfl rfl rfl (by omega) ⟨Nat.le_refl _, Nat.le_refl _⟩ (Nat.le_of_ble_eq_true rfl) (fun σ1 hX => ?_)
  obtain ⟨hP, hE⟩ := hX
  have hR := hR.ag (fun j h1 h2 => hE j (by omega))
  refine R.aload_n (j := 2) (i := 2) hc rfl rfl dL_law_741 ?_
  refine R.aload_n (j := 0) (i := 0) hc rfl rfl dL_law_742 ?_
  refine R.iload_n (j := 3) (i := 3) hc rfl rfl dL_law_743 ?_
  refine R.iconst hc ic_1 dL_law_744 ?_
  refine R.iaddN hc dL_law_745 ?_
  refine R.sald hc dL_law_746 (show _ < L by omega) (show L < 2 ^ 31 by omega) ?_
  refine R.dVi hc m_X7_dries lk_L_100 dL_law_747 (c_X7_dries l 0 (L, xs) 59 hR hI _) hR.obj rfl rfl rfl (by omega) ⟨Nat.le_refl _, Nat.le_refl _⟩ (Nat.le_of_ble_eq_true rfl) (fun σ2 hX => ?_)
  obtain ⟨hP2, hE2⟩ := hX
  refine R.icmp_eq (tgt := 1342) hc dL_law_750 (by decide) (fun _ => nxt σ2 ?_) (fun z => absurd rfl z)
  exact LI.of hP hP2 hE2 hI
set_option maxHeartbeats 4000000 in
set_option maxRecDepth 100000 in
theorem lw_match {cx : Cx} {l : Launch} {L : Nat} {xs : Nat → Int32} {Q : Option Value → Nat → Wd → Prop} (hc : cx = lw_cx l L xs Q) {i : Nat} {σ : Wd} (hi : i + 7 ≤ L) (hL : L ≤ 448) (hI : LI σ) (nxt : ∀ σ', LI σ' → R cx 59 1711 59 σ' 1342 (lw_ls i) []) : R cx 59 1711 59 σ 755 (lw_ls i) [] := by
  obtain ⟨a, np, nq, hr, dr, hs, im, tp, tl, ln, sz, it, hC, hR, hI⟩ := hI
  refine R.aload_n (j := 1) (i := 1) hc rfl rfl dL_law_755 ?_
  refine R.dVi hc m_X6_match lk_L_101 dL_law_756 (c_X6_match l 0 (L, xs) 59 hC hI ) hC.obj rfl rfl rfl (by omega) ⟨Nat.le_refl _, Nat.le_refl _⟩ (Nat.le_of_ble_eq_true rfl) (fun σ1 hX => ?_)
  obtain ⟨hP, hE⟩ := hX
  have hR := hR.ag (fun j h1 h2 => hE j (by omega))
  refine R.aload_n (j := 2) (i := 2) hc rfl rfl dL_law_759 ?_
  refine R.dVi hc m_X7_match lk_L_104 dL_law_760 (c_X7_match l 0 (L, xs) 59 hR hI ) hR.obj rfl rfl rfl (by omega) ⟨Nat.le_refl _, Nat.le_refl _⟩ (Nat.le_of_ble_eq_true rfl) (fun σ2 hX => ?_)
  obtain ⟨hP2, hE2⟩ := hX
  refine R.icmp_eq (tgt := 1342) hc dL_law_763 (by decide) (fun _ => nxt σ2 ?_) (fun z => absurd rfl z)
  exact LI.of hP hP2 hE2 hI
set_option maxHeartbeats 4000000 in
set_option maxRecDepth 100000 in
theorem lw_latest {cx : Cx} {l : Launch} {L : Nat} {xs : Nat → Int32} {Q : Option Value → Nat → Wd → Prop} (hc : cx = lw_cx l L xs Q) {i : Nat} {σ : Wd} (hi : i + 7 ≤ L) (hL : L ≤ 448) (hI : LI σ) (nxt : ∀ σ', LI σ' → R cx 59 1711 59 σ' 1342 (lw_ls i) []) : R cx 59 1711 59 σ 768 (lw_ls i) [] := by
  obtain ⟨a, np, nq, hr, dr, hs, im, tp, tl, ln, sz, it, hC, hR, hI⟩ := hI
  refine R.aload_n (j := 1) (i := 1) hc rfl rfl dL_law_768 ?_
  refine R.aload_n (j := 0) (i := 0) hc rfl rfl dL_law_769 ?_
  refine R.iload_n (j := 3) (i := 3) hc rfl rfl dL_law_770 ?_
  refine R.iconst hc ic_1 dL_law_771 ?_
  refine R.iaddN hc dL_law_772 ?_
  refine R.sald hc dL_law_773 (show _ < L by omega) (show L < 2 ^ 31 by omega) ?_
  refine R.dVi hc m_X6_latest lk_L_105 dL_law_774 (c_X6_latest l 0 (L, xs) 59 hC hI _) hC.obj rfl rfl rfl (by omega) ⟨Nat.le_refl _, Nat.le_refl _⟩ (Nat.le_of_ble_eq_true rfl) (fun σ1 hX => ?_)
  obtain ⟨hP, hE⟩ := hX
  have hR := hR.ag (fun j h1 h2 => hE j (by omega))
  refine R.aload_n (j := 2) (i := 2) hc rfl rfl dL_law_777 ?_
  refine R.aload_n (j := 0) (i := 0) hc rfl rfl dL_law_778 ?_
  refine R.iload_n (j := 3) (i := 3) hc rfl rfl dL_law_779 ?_
  refine R.iconst hc ic_1 dL_law_780 ?_
  refine R.iaddN hc dL_law_781 ?_
  refine R.sald hc dL_law_782 (show _ < L by omega) (show L < 2 ^ 31 by omega) ?_
  refine R.dVi hc m_X7_latest lk_L_108 dL_law_783 (c_X7_latest l 0 (L, xs) 59 hR hI _) hR.obj rfl rfl rfl (by omega) ⟨Nat.le_refl _, Nat.le_refl _⟩ (Nat.le_of_ble_eq_true rfl) (fun σ2 hX => ?_)
  obtain ⟨hP2, hE2⟩ := hX
  refine R.icmp_eq (tgt := 1342) hc dL_law_786 (by decide) (fun _ => nxt σ2 ?_) (fun z => absurd rfl z)
  exact LI.of hP hP2 hE2 hI
set_option maxHeartbeats 4000000 in
set_option maxRecDepth 100000 in
theorem lw_order {cx : Cx} {l : Launch} {L : Nat} {xs : Nat → Int32} {Q : Option Value → Nat → Wd → Prop} (hc : cx = lw_cx l L xs Q) {i : Nat} {σ : Wd} (hi : i + 7 ≤ L) (hL : L ≤ 448) (hI : LI σ) (nxt : ∀ σ', LI σ' → R cx 59 1711 59 σ' 1342 (lw_ls i) []) : R cx 59 1711 59 σ 791 (lw_ls i) [] := by
  obtain ⟨a, np, nq, hr, dr, hs, im, tp, tl, ln, sz, it, hC, hR, hI⟩ := hI
  refine R.aload_n (j := 1) (i := 1) hc rfl rfl dL_law_791 ?_
  refine R.aload_n (j := 0) (i := 0) hc rfl rfl dL_law_792 ?_
  refine R.iload_n (j := 3) (i := 3) hc rfl rfl dL_law_793 ?_
  refine R.iconst hc ic_1 dL_law_794 ?_
  refine R.iaddN hc dL_law_795 ?_
  refine R.sald hc dL_law_796 (show _ < L by omega) (show L < 2 ^ 31 by omega) ?_
  refine R.aload_n (j := 0) (i := 0) hc rfl rfl dL_law_797 ?_
  refine R.iload_n (j := 3) (i := 3) hc rfl rfl dL_law_798 ?_
  refine R.iconst hc ic_2 dL_law_799 ?_
  refine R.iaddN hc dL_law_800 ?_
  refine R.sald hc dL_law_801 (show _ < L by omega) (show L < 2 ^ 31 by omega) ?_
  refine R.dVi hc m_X6_order lk_L_109 dL_law_802 (c_X6_order l 0 (L, xs) 59 hC hI _ _) hC.obj rfl rfl rfl (by omega) ⟨Nat.le_refl _, Nat.le_refl _⟩ (Nat.le_of_ble_eq_true rfl) (fun σ1 hX => ?_)
  obtain ⟨hP, hE⟩ := hX
  have hR := hR.ag (fun j h1 h2 => hE j (by omega))
  refine R.aload_n (j := 2) (i := 2) hc rfl rfl dL_law_805 ?_
  refine R.aload_n (j := 0) (i := 0) hc rfl rfl dL_law_806 ?_
  refine R.iload_n (j := 3) (i := 3) hc rfl rfl dL_law_807 ?_
  refine R.iconst hc ic_1 dL_law_808 ?_
  refine R.iaddN hc dL_law_809 ?_
  refine R.sald hc dL_law_810 (show _ < L by omega) (show L < 2 ^ 31 by omega) ?_
  refine R.aload_n (j := 0) (i := 0) hc rfl rfl dL_law_811 ?_
  refine R.iload_n (j := 3) (i := 3) hc rfl rfl dL_law_812 ?_
  refine R.iconst hc ic_2 dL_law_813 ?_
  refine R.iaddN hc dL_law_814 ?_
  refine R.sald hc dL_law_815 (show _ < L by omega) (show L < 2 ^ 31 by omega) ?_
  refine R.dVi hc m_X7_order lk_L_112 dL_law_816 (c_X7_order l 0 (L, xs) 59 hR hI _ _) hR.obj rfl rfl rfl (by omega) ⟨Nat.le_refl _, Nat.le_refl _⟩ (Nat.le_of_ble_eq_true rfl) (fun σ2 hX => ?_)
  obtain ⟨hP2, hE2⟩ := hX
  refine R.icmp_eq (tgt := 1342) hc dL_law_819 (by decide) (fun _ => nxt σ2 ?_) (fun z => absurd rfl z)
  exact LI.of hP hP2 hE2 hI
set_option maxHeartbeats 4000000 in
set_option maxRecDepth 100000 in
theorem lw_wet {cx : Cx} {l : Launch} {L : Nat} {xs : Nat → Int32} {Q : Option Value → Nat → Wd → Prop} (hc : cx = lw_cx l L xs Q) {i : Nat} {σ : Wd} (hi : i + 7 ≤ L) (hL : L ≤ 448) (hI : LI σ) (nxt : ∀ σ', LI σ' → R cx 59 1711 59 σ' 1342 (lw_ls i) []) : R cx 59 1711 59 σ 824 (lw_ls i) [] := by
  obtain ⟨a, np, nq, hr, dr, hs, im, tp, tl, ln, sz, it, hC, hR, hI⟩ := hI
  refine R.aload_n (j := 1) (i := 1) hc rfl rfl dL_law_824 ?_
  refine R.aload_n (j := 0) (i := 0) hc rfl rfl dL_law_825 ?_
  refine R.iload_n (j := 3) (i := 3) hc rfl rfl dL_law_826 ?_
  refine R.iconst hc ic_1 dL_law_827 ?_
  refine R.iaddN hc dL_law_828 ?_
  refine R.sald hc dL_law_829 (show _ < L by omega) (show L < 2 ^ 31 by omega) ?_
  refine R.dVi hc m_X6_wet lk_L_113 dL_law_830 (c_X6_wet l 0 (L, xs) 59 hC hI _) hC.obj rfl rfl rfl (by omega) ⟨Nat.le_refl _, Nat.le_refl _⟩ (Nat.le_of_ble_eq_true rfl) (fun σ1 hX => ?_)
  obtain ⟨hP, hE⟩ := hX
  have hR := hR.ag (fun j h1 h2 => hE j (by omega))
  refine R.aload_n (j := 2) (i := 2) hc rfl rfl dL_law_833 ?_
  refine R.aload_n (j := 0) (i := 0) hc rfl rfl dL_law_834 ?_
  refine R.iload_n (j := 3) (i := 3) hc rfl rfl dL_law_835 ?_
  refine R.iconst hc ic_1 dL_law_836 ?_
  refine R.iaddN hc dL_law_837 ?_
  refine R.sald hc dL_law_838 (show _ < L by omega) (show L < 2 ^ 31 by omega) ?_
  refine R.dVi hc m_X7_wet lk_L_116 dL_law_839 (c_X7_wet l 0 (L, xs) 59 hR hI _) hR.obj rfl rfl rfl (by omega) ⟨Nat.le_refl _, Nat.le_refl _⟩ (Nat.le_of_ble_eq_true rfl) (fun σ2 hX => ?_)
  obtain ⟨hP2, hE2⟩ := hX
  refine R.icmp_eq (tgt := 1342) hc dL_law_842 (by decide) (fun _ => nxt σ2 ?_) (fun z => absurd rfl z)
  exact LI.of hP hP2 hE2 hI
set_option maxHeartbeats 4000000 in
set_option maxRecDepth 100000 in
theorem lw_matters {cx : Cx} {l : Launch} {L : Nat} {xs : Nat → Int32} {Q : Option Value → Nat → Wd → Prop} (hc : cx = lw_cx l L xs Q) {i : Nat} {σ : Wd} (hi : i + 7 ≤ L) (hL : L ≤ 448) (hI : LI σ) (nxt : ∀ σ', LI σ' → R cx 59 1711 59 σ' 1342 (lw_ls i) []) : R cx 59 1711 59 σ 847 (lw_ls i) [] := by
  obtain ⟨a, np, nq, hr, dr, hs, im, tp, tl, ln, sz, it, hC, hR, hI⟩ := hI
  refine R.aload_n (j := 1) (i := 1) hc rfl rfl dL_law_847 ?_
  refine R.aload_n (j := 0) (i := 0) hc rfl rfl dL_law_848 ?_
  refine R.iload_n (j := 3) (i := 3) hc rfl rfl dL_law_849 ?_
  refine R.iconst hc ic_1 dL_law_850 ?_
  refine R.iaddN hc dL_law_851 ?_
  refine R.sald hc dL_law_852 (show _ < L by omega) (show L < 2 ^ 31 by omega) ?_
  refine R.aload_n (j := 0) (i := 0) hc rfl rfl dL_law_853 ?_
  refine R.iload_n (j := 3) (i := 3) hc rfl rfl dL_law_854 ?_
  refine R.iconst hc ic_2 dL_law_855 ?_
  refine R.iaddN hc dL_law_856 ?_
  refine R.sald hc dL_law_857 (show _ < L by omega) (show L < 2 ^ 31 by omega) ?_
  refine R.dVi hc m_X6_matters lk_L_117 dL_law_858 (c_X6_matters l 0 (L, xs) 59 hC hI _ _) hC.obj rfl rfl rfl (by omega) ⟨Nat.le_refl _, Nat.le_refl _⟩ (Nat.le_of_ble_eq_true rfl) (fun σ1 hX => ?_)
  obtain ⟨hP, hE⟩ := hX
  have hR := hR.ag (fun j h1 h2 => hE j (by omega))
  refine R.aload_n (j := 2) (i := 2) hc rfl rfl dL_law_861 ?_
  refine R.aload_n (j := 0) (i := 0) hc rfl rfl dL_law_862 ?_
  refine R.iload_n (j := 3) (i := 3) hc rfl rfl dL_law_863 ?_
  refine R.iconst hc ic_1 dL_law_864 ?_
  refine R.iaddN hc dL_law_865 ?_
  refine R.sald hc dL_law_866 (show _ < L by omega) (show L < 2 ^ 31 by omega) ?_
  refine R.aload_n (j := 0) (i := 0) hc rfl rfl dL_law_867 ?_
  refine R.iload_n (j := 3) (i := 3) hc rfl rfl dL_law_868 ?_
  refine R.iconst hc ic_2 dL_law_869 ?_
  refine R.iaddN hc dL_law_870 ?_
  refine R.sald hc dL_law_871 (show _ < L by omega) (show L < 2 ^ 31 by omega) ?_
  refine R.dVi hc m_X7_matters lk_L_120 dL_law_872 (c_X7_matters l 0 (L, xs) 59 hR hI _ _) hR.obj rfl rfl rfl (by omega) ⟨Nat.le_refl _, Nat.le_refl _⟩ (Nat.le_of_ble_eq_true rfl) (fun σ2 hX => ?_)
  obtain ⟨hP2, hE2⟩ := hX
  refine R.icmp_eq (tgt := 1342) hc dL_law_875 (by decide) (fun _ => nxt σ2 ?_) (fun z => absurd rfl z)
  exact LI.of hP hP2 hE2 hI
set_option maxHeartbeats 4000000 in
set_option maxRecDepth 100000 in
theorem lw_sight {cx : Cx} {l : Launch} {L : Nat} {xs : Nat → Int32} {Q : Option Value → Nat → Wd → Prop} (hc : cx = lw_cx l L xs Q) {i : Nat} {σ : Wd} (hi : i + 7 ≤ L) (hL : L ≤ 448) (hI : LI σ) (nxt : ∀ σ', LI σ' → R cx 59 1711 59 σ' 1342 (lw_ls i) []) : R cx 59 1711 59 σ 880 (lw_ls i) [] := by
  obtain ⟨a, np, nq, hr, dr, hs, im, tp, tl, ln, sz, it, hC, hR, hI⟩ := hI
  refine R.aload_n (j := 1) (i := 1) hc rfl rfl dL_law_880 ?_
  refine R.aload_n (j := 0) (i := 0) hc rfl rfl dL_law_881 ?_
  refine R.iload_n (j := 3) (i := 3) hc rfl rfl dL_law_882 ?_
  refine R.iconst hc ic_1 dL_law_883 ?_
  refine R.iaddN hc dL_law_884 ?_
  refine R.sald hc dL_law_885 (show _ < L by omega) (show L < 2 ^ 31 by omega) ?_
  refine R.aload_n (j := 0) (i := 0) hc rfl rfl dL_law_886 ?_
  refine R.iload_n (j := 3) (i := 3) hc rfl rfl dL_law_887 ?_
  refine R.iconst hc ic_2 dL_law_888 ?_
  refine R.iaddN hc dL_law_889 ?_
  refine R.sald hc dL_law_890 (show _ < L by omega) (show L < 2 ^ 31 by omega) ?_
  refine R.aload_n (j := 0) (i := 0) hc rfl rfl dL_law_891 ?_
  refine R.iload_n (j := 3) (i := 3) hc rfl rfl dL_law_892 ?_
  refine R.iconst hc ic_3 dL_law_893 ?_
  refine R.iaddN hc dL_law_894 ?_
  refine R.sald hc dL_law_895 (show _ < L by omega) (show L < 2 ^ 31 by omega) ?_
  refine R.dVi hc m_X6_sight lk_L_121 dL_law_896 (c_X6_sight l 0 (L, xs) 59 hC hI _ _ _) hC.obj rfl rfl rfl (by omega) ⟨Nat.le_refl _, Nat.le_refl _⟩ (Nat.le_of_ble_eq_true rfl) (fun σ1 hX => ?_)
  obtain ⟨hP, hE⟩ := hX
  have hR := hR.ag (fun j h1 h2 => hE j (by omega))
  refine R.aload_n (j := 2) (i := 2) hc rfl rfl dL_law_899 ?_
  refine R.aload_n (j := 0) (i := 0) hc rfl rfl dL_law_900 ?_
  refine R.iload_n (j := 3) (i := 3) hc rfl rfl dL_law_901 ?_
  refine R.iconst hc ic_1 dL_law_902 ?_
  refine R.iaddN hc dL_law_903 ?_
  refine R.sald hc dL_law_904 (show _ < L by omega) (show L < 2 ^ 31 by omega) ?_
  refine R.aload_n (j := 0) (i := 0) hc rfl rfl dL_law_905 ?_
  refine R.iload_n (j := 3) (i := 3) hc rfl rfl dL_law_906 ?_
  refine R.iconst hc ic_2 dL_law_907 ?_
  refine R.iaddN hc dL_law_908 ?_
  refine R.sald hc dL_law_909 (show _ < L by omega) (show L < 2 ^ 31 by omega) ?_
  refine R.aload_n (j := 0) (i := 0) hc rfl rfl dL_law_910 ?_
  refine R.iload_n (j := 3) (i := 3) hc rfl rfl dL_law_911 ?_
  refine R.iconst hc ic_3 dL_law_912 ?_
  refine R.iaddN hc dL_law_913 ?_
  refine R.sald hc dL_law_914 (show _ < L by omega) (show L < 2 ^ 31 by omega) ?_
  refine R.dVi hc m_X7_sight lk_L_124 dL_law_915 (c_X7_sight l 0 (L, xs) 59 hR hI _ _ _) hR.obj rfl rfl rfl (by omega) ⟨Nat.le_refl _, Nat.le_refl _⟩ (Nat.le_of_ble_eq_true rfl) (fun σ2 hX => ?_)
  obtain ⟨hP2, hE2⟩ := hX
  refine R.icmp_eq (tgt := 1342) hc dL_law_918 (by decide) (fun _ => nxt σ2 ?_) (fun z => absurd rfl z)
  exact LI.of hP hP2 hE2 hI
set_option maxHeartbeats 4000000 in
set_option maxRecDepth 100000 in
theorem lw_carts {cx : Cx} {l : Launch} {L : Nat} {xs : Nat → Int32} {Q : Option Value → Nat → Wd → Prop} (hc : cx = lw_cx l L xs Q) {i : Nat} {σ : Wd} (hi : i + 7 ≤ L) (hL : L ≤ 448) (hI : LI σ) (nxt : ∀ σ', LI σ' → R cx 59 1711 59 σ' 1342 (lw_ls i) []) : R cx 59 1711 59 σ 923 (lw_ls i) [] := by
  obtain ⟨a, np, nq, hr, dr, hs, im, tp, tl, ln, sz, it, hC, hR, hI⟩ := hI
  refine R.aload_n (j := 1) (i := 1) hc rfl rfl dL_law_923 ?_
  refine R.aload_n (j := 0) (i := 0) hc rfl rfl dL_law_924 ?_
  refine R.iload_n (j := 3) (i := 3) hc rfl rfl dL_law_925 ?_
  refine R.iconst hc ic_1 dL_law_926 ?_
  refine R.iaddN hc dL_law_927 ?_
  refine R.sald hc dL_law_928 (show _ < L by omega) (show L < 2 ^ 31 by omega) ?_
  refine R.aload_n (j := 0) (i := 0) hc rfl rfl dL_law_929 ?_
  refine R.iload_n (j := 3) (i := 3) hc rfl rfl dL_law_930 ?_
  refine R.iconst hc ic_2 dL_law_931 ?_
  refine R.iaddN hc dL_law_932 ?_
  refine R.sald hc dL_law_933 (show _ < L by omega) (show L < 2 ^ 31 by omega) ?_
  refine R.aload_n (j := 0) (i := 0) hc rfl rfl dL_law_934 ?_
  refine R.iload_n (j := 3) (i := 3) hc rfl rfl dL_law_935 ?_
  refine R.iconst hc ic_3 dL_law_936 ?_
  refine R.iaddN hc dL_law_937 ?_
  refine R.sald hc dL_law_938 (show _ < L by omega) (show L < 2 ^ 31 by omega) ?_
  refine R.dVi hc m_X6_carts lk_L_125 dL_law_939 (c_X6_carts l 0 (L, xs) 59 hC hI _ _ _) hC.obj rfl rfl rfl (by omega) ⟨Nat.le_refl _, Nat.le_refl _⟩ (Nat.le_of_ble_eq_true rfl) (fun σ1 hX => ?_)
  obtain ⟨hP, hE⟩ := hX
  have hR := hR.ag (fun j h1 h2 => hE j (by omega))
  refine R.aload_n (j := 2) (i := 2) hc rfl rfl dL_law_942 ?_
  refine R.aload_n (j := 0) (i := 0) hc rfl rfl dL_law_943 ?_
  refine R.iload_n (j := 3) (i := 3) hc rfl rfl dL_law_944 ?_
  refine R.iconst hc ic_1 dL_law_945 ?_
  refine R.iaddN hc dL_law_946 ?_
  refine R.sald hc dL_law_947 (show _ < L by omega) (show L < 2 ^ 31 by omega) ?_
  refine R.aload_n (j := 0) (i := 0) hc rfl rfl dL_law_948 ?_
  refine R.iload_n (j := 3) (i := 3) hc rfl rfl dL_law_949 ?_
  refine R.iconst hc ic_2 dL_law_950 ?_
  refine R.iaddN hc dL_law_951 ?_
  refine R.sald hc dL_law_952 (show _ < L by omega) (show L < 2 ^ 31 by omega) ?_
  refine R.aload_n (j := 0) (i := 0) hc rfl rfl dL_law_953 ?_
  refine R.iload_n (j := 3) (i := 3) hc rfl rfl dL_law_954 ?_
  refine R.iconst hc ic_3 dL_law_955 ?_
  refine R.iaddN hc dL_law_956 ?_
  refine R.sald hc dL_law_957 (show _ < L by omega) (show L < 2 ^ 31 by omega) ?_
  refine R.dVi hc m_X7_carts lk_L_128 dL_law_958 (c_X7_carts l 0 (L, xs) 59 hR hI _ _ _) hR.obj rfl rfl rfl (by omega) ⟨Nat.le_refl _, Nat.le_refl _⟩ (Nat.le_of_ble_eq_true rfl) (fun σ2 hX => ?_)
  obtain ⟨hP2, hE2⟩ := hX
  refine R.icmp_eq (tgt := 1342) hc dL_law_961 (by decide) (fun _ => nxt σ2 ?_) (fun z => absurd rfl z)
  exact LI.of hP hP2 hE2 hI
set_option maxHeartbeats 4000000 in
set_option maxRecDepth 100000 in
theorem lw_image {cx : Cx} {l : Launch} {L : Nat} {xs : Nat → Int32} {Q : Option Value → Nat → Wd → Prop} (hc : cx = lw_cx l L xs Q) {i : Nat} {σ : Wd} (hi : i + 7 ≤ L) (hL : L ≤ 448) (hI : LI σ) (nxt : ∀ σ', LI σ' → R cx 59 1711 59 σ' 1342 (lw_ls i) []) : R cx 59 1711 59 σ 966 (lw_ls i) [] := by
  obtain ⟨a, np, nq, hr, dr, hs, im, tp, tl, ln, sz, it, hC, hR, hI⟩ := hI
  refine R.aload_n (j := 1) (i := 1) hc rfl rfl dL_law_966 ?_
  refine R.dVi hc m_X6_image lk_L_129 dL_law_967 (c_X6_image l 0 (L, xs) 59 hC hI ) hC.obj rfl rfl rfl (by omega) ⟨Nat.le_refl _, Nat.le_refl _⟩ (Nat.le_of_ble_eq_true rfl) (fun σ1 hX => ?_)
  obtain ⟨hP, hE⟩ := hX
  have hR := hR.ag (fun j h1 h2 => hE j (by omega))
  refine R.aload_n (j := 2) (i := 2) hc rfl rfl dL_law_970 ?_
  refine R.dVi hc m_X7_image lk_L_132 dL_law_971 (c_X7_image l 0 (L, xs) 59 hR hI ) hR.obj rfl rfl rfl (by omega) ⟨Nat.le_refl _, Nat.le_refl _⟩ (Nat.le_of_ble_eq_true rfl) (fun σ2 hX => ?_)
  obtain ⟨hP2, hE2⟩ := hX
  refine R.icmp_eq (tgt := 1342) hc dL_law_974 (by decide) (fun _ => nxt σ2 ?_) (fun z => absurd rfl z)
  exact LI.of hP hP2 hE2 hI.image
set_option maxHeartbeats 4000000 in
set_option maxRecDepth 100000 in
theorem lw_restore {cx : Cx} {l : Launch} {L : Nat} {xs : Nat → Int32} {Q : Option Value → Nat → Wd → Prop} (hc : cx = lw_cx l L xs Q) {i : Nat} {σ : Wd} (hi : i + 7 ≤ L) (hL : L ≤ 448) (hI : LI σ) (nxt : ∀ σ', LI σ' → R cx 59 1711 59 σ' 1342 (lw_ls i) []) : R cx 59 1711 59 σ 979 (lw_ls i) [] := by
  obtain ⟨a, np, nq, hr, dr, hs, im, tp, tl, ln, sz, it, hC, hR, hI⟩ := hI
  refine R.aload_n (j := 1) (i := 1) hc rfl rfl dL_law_979 ?_
  refine R.dVi hc m_X6_restore lk_L_133 dL_law_980 (c_X6_restore l 0 (L, xs) 59 hC hI ) hC.obj rfl rfl rfl (by omega) ⟨Nat.le_refl _, Nat.le_refl _⟩ (Nat.le_of_ble_eq_true rfl) (fun σ1 hX => ?_)
  obtain ⟨hP, hE⟩ := hX
  have hR := hR.ag (fun j h1 h2 => hE j (by omega))
  refine R.aload_n (j := 2) (i := 2) hc rfl rfl dL_law_983 ?_
  refine R.dVi hc m_X7_restore lk_L_136 dL_law_984 (c_X7_restore l 0 (L, xs) 59 hR hI ) hR.obj rfl rfl rfl (by omega) ⟨Nat.le_refl _, Nat.le_refl _⟩ (Nat.le_of_ble_eq_true rfl) (fun σ2 hX => ?_)
  obtain ⟨hP2, hE2⟩ := hX
  refine R.icmp_eq (tgt := 1342) hc dL_law_987 (by decide) (fun _ => nxt σ2 ?_) (fun z => absurd rfl z)
  cases im with
  | none => exact LI.of hP hP2 hE2 hI
  | some q => exact LI.of hP hP2 hE2 hI.restore
set_option maxHeartbeats 4000000 in
set_option maxRecDepth 100000 in
theorem lw_dipped {cx : Cx} {l : Launch} {L : Nat} {xs : Nat → Int32} {Q : Option Value → Nat → Wd → Prop} (hc : cx = lw_cx l L xs Q) {i : Nat} {σ : Wd} (hi : i + 7 ≤ L) (hL : L ≤ 448) (hI : LI σ) (nxt : ∀ σ', LI σ' → R cx 59 1711 59 σ' 1342 (lw_ls i) []) : R cx 59 1711 59 σ 992 (lw_ls i) [] := by
  obtain ⟨a, np, nq, hr, dr, hs, im, tp, tl, ln, sz, it, hC, hR, hI⟩ := hI
  refine R.aload_n (j := 1) (i := 1) hc rfl rfl dL_law_992 ?_
  refine R.aload_n (j := 0) (i := 0) hc rfl rfl dL_law_993 ?_
  refine R.iload_n (j := 3) (i := 3) hc rfl rfl dL_law_994 ?_
  refine R.iconst hc ic_1 dL_law_995 ?_
  refine R.iaddN hc dL_law_996 ?_
  refine R.sald hc dL_law_997 (show _ < L by omega) (show L < 2 ^ 31 by omega) ?_
  refine R.aload_n (j := 0) (i := 0) hc rfl rfl dL_law_998 ?_
  refine R.iload_n (j := 3) (i := 3) hc rfl rfl dL_law_999 ?_
  refine R.iconst hc ic_2 dL_law_1000 ?_
  refine R.iaddN hc dL_law_1001 ?_
  refine R.sald hc dL_law_1002 (show _ < L by omega) (show L < 2 ^ 31 by omega) ?_
  refine R.aload_n (j := 0) (i := 0) hc rfl rfl dL_law_1003 ?_
  refine R.iload_n (j := 3) (i := 3) hc rfl rfl dL_law_1004 ?_
  refine R.iconst hc ic_3 dL_law_1005 ?_
  refine R.iaddN hc dL_law_1006 ?_
  refine R.sald hc dL_law_1007 (show _ < L by omega) (show L < 2 ^ 31 by omega) ?_
  refine R.aload_n (j := 0) (i := 0) hc rfl rfl dL_law_1008 ?_
  refine R.iload_n (j := 3) (i := 3) hc rfl rfl dL_law_1009 ?_
  refine R.iconst hc ic_4 dL_law_1010 ?_
  refine R.iaddN hc dL_law_1011 ?_
  refine R.sald hc dL_law_1012 (show _ < L by omega) (show L < 2 ^ 31 by omega) ?_
  refine R.aload_n (j := 0) (i := 0) hc rfl rfl dL_law_1013 ?_
  refine R.iload_n (j := 3) (i := 3) hc rfl rfl dL_law_1014 ?_
  refine R.iconst hc ic_5 dL_law_1015 ?_
  refine R.iaddN hc dL_law_1016 ?_
  refine R.sald hc dL_law_1017 (show _ < L by omega) (show L < 2 ^ 31 by omega) ?_
  refine R.aload_n (j := 0) (i := 0) hc rfl rfl dL_law_1018 ?_
  refine R.iload_n (j := 3) (i := 3) hc rfl rfl dL_law_1019 ?_
  refine R.bipush hc bp_6 dL_law_1020 ?_
  refine R.iaddN hc dL_law_1022 ?_
  refine R.sald hc dL_law_1023 (show _ < L by omega) (show L < 2 ^ 31 by omega) ?_
  refine R.dVi hc m_X6_dipped lk_L_137 dL_law_1024 (c_X6_dipped l 0 (L, xs) 59 hC hI _ _ _ _ _ _) hC.obj rfl rfl rfl (by omega) ⟨Nat.le_refl _, Nat.le_refl _⟩ (Nat.le_of_ble_eq_true rfl) (fun σ1 hX => ?_)
  obtain ⟨hP, hE⟩ := hX
  have hR := hR.ag (fun j h1 h2 => hE j (by omega))
  refine R.aload_n (j := 2) (i := 2) hc rfl rfl dL_law_1027 ?_
  refine R.aload_n (j := 0) (i := 0) hc rfl rfl dL_law_1028 ?_
  refine R.iload_n (j := 3) (i := 3) hc rfl rfl dL_law_1029 ?_
  refine R.iconst hc ic_1 dL_law_1030 ?_
  refine R.iaddN hc dL_law_1031 ?_
  refine R.sald hc dL_law_1032 (show _ < L by omega) (show L < 2 ^ 31 by omega) ?_
  refine R.aload_n (j := 0) (i := 0) hc rfl rfl dL_law_1033 ?_
  refine R.iload_n (j := 3) (i := 3) hc rfl rfl dL_law_1034 ?_
  refine R.iconst hc ic_2 dL_law_1035 ?_
  refine R.iaddN hc dL_law_1036 ?_
  refine R.sald hc dL_law_1037 (show _ < L by omega) (show L < 2 ^ 31 by omega) ?_
  refine R.aload_n (j := 0) (i := 0) hc rfl rfl dL_law_1038 ?_
  refine R.iload_n (j := 3) (i := 3) hc rfl rfl dL_law_1039 ?_
  refine R.iconst hc ic_3 dL_law_1040 ?_
  refine R.iaddN hc dL_law_1041 ?_
  refine R.sald hc dL_law_1042 (show _ < L by omega) (show L < 2 ^ 31 by omega) ?_
  refine R.aload_n (j := 0) (i := 0) hc rfl rfl dL_law_1043 ?_
  refine R.iload_n (j := 3) (i := 3) hc rfl rfl dL_law_1044 ?_
  refine R.iconst hc ic_4 dL_law_1045 ?_
  refine R.iaddN hc dL_law_1046 ?_
  refine R.sald hc dL_law_1047 (show _ < L by omega) (show L < 2 ^ 31 by omega) ?_
  refine R.aload_n (j := 0) (i := 0) hc rfl rfl dL_law_1048 ?_
  refine R.iload_n (j := 3) (i := 3) hc rfl rfl dL_law_1049 ?_
  refine R.iconst hc ic_5 dL_law_1050 ?_
  refine R.iaddN hc dL_law_1051 ?_
  refine R.sald hc dL_law_1052 (show _ < L by omega) (show L < 2 ^ 31 by omega) ?_
  refine R.aload_n (j := 0) (i := 0) hc rfl rfl dL_law_1053 ?_
  refine R.iload_n (j := 3) (i := 3) hc rfl rfl dL_law_1054 ?_
  refine R.bipush hc bp_6 dL_law_1055 ?_
  refine R.iaddN hc dL_law_1057 ?_
  refine R.sald hc dL_law_1058 (show _ < L by omega) (show L < 2 ^ 31 by omega) ?_
  refine R.dVi hc m_X7_dipped lk_L_141 dL_law_1059 (c_X7_dipped l 0 (L, xs) 59 hR hI _ _ _ _ _ _) hR.obj rfl rfl rfl (by omega) ⟨Nat.le_refl _, Nat.le_refl _⟩ (Nat.le_of_ble_eq_true rfl) (fun σ2 hX => ?_)
  obtain ⟨hP2, hE2⟩ := hX
  refine R.icmp_eq (tgt := 1342) hc dL_law_1062 (by decide) (fun _ => nxt σ2 ?_) (fun z => absurd rfl z)
  exact LI.of hP hP2 hE2 hI
set_option maxHeartbeats 4000000 in
set_option maxRecDepth 100000 in
theorem lw_film {cx : Cx} {l : Launch} {L : Nat} {xs : Nat → Int32} {Q : Option Value → Nat → Wd → Prop} (hc : cx = lw_cx l L xs Q) {i : Nat} {σ : Wd} (hi : i + 7 ≤ L) (hL : L ≤ 448) (hI : LI σ) (nxt : ∀ σ', LI σ' → R cx 59 1711 59 σ' 1342 (lw_ls i) []) : R cx 59 1711 59 σ 1067 (lw_ls i) [] := by
  obtain ⟨a, np, nq, hr, dr, hs, im, tp, tl, ln, sz, it, hC, hR, hI⟩ := hI
  refine R.aload_n (j := 1) (i := 1) hc rfl rfl dL_law_1067 ?_
  refine R.aload_n (j := 0) (i := 0) hc rfl rfl dL_law_1068 ?_
  refine R.iload_n (j := 3) (i := 3) hc rfl rfl dL_law_1069 ?_
  refine R.iconst hc ic_1 dL_law_1070 ?_
  refine R.iaddN hc dL_law_1071 ?_
  refine R.sald hc dL_law_1072 (show _ < L by omega) (show L < 2 ^ 31 by omega) ?_
  refine R.aload_n (j := 0) (i := 0) hc rfl rfl dL_law_1073 ?_
  refine R.iload_n (j := 3) (i := 3) hc rfl rfl dL_law_1074 ?_
  refine R.iconst hc ic_2 dL_law_1075 ?_
  refine R.iaddN hc dL_law_1076 ?_
  refine R.sald hc dL_law_1077 (show _ < L by omega) (show L < 2 ^ 31 by omega) ?_
  refine R.aload_n (j := 0) (i := 0) hc rfl rfl dL_law_1078 ?_
  refine R.iload_n (j := 3) (i := 3) hc rfl rfl dL_law_1079 ?_
  refine R.iconst hc ic_3 dL_law_1080 ?_
  refine R.iaddN hc dL_law_1081 ?_
  refine R.sald hc dL_law_1082 (show _ < L by omega) (show L < 2 ^ 31 by omega) ?_
  refine R.aload_n (j := 0) (i := 0) hc rfl rfl dL_law_1083 ?_
  refine R.iload_n (j := 3) (i := 3) hc rfl rfl dL_law_1084 ?_
  refine R.iconst hc ic_4 dL_law_1085 ?_
  refine R.iaddN hc dL_law_1086 ?_
  refine R.sald hc dL_law_1087 (show _ < L by omega) (show L < 2 ^ 31 by omega) ?_
  refine R.aload_n (j := 0) (i := 0) hc rfl rfl dL_law_1088 ?_
  refine R.iload_n (j := 3) (i := 3) hc rfl rfl dL_law_1089 ?_
  refine R.iconst hc ic_5 dL_law_1090 ?_
  refine R.iaddN hc dL_law_1091 ?_
  refine R.sald hc dL_law_1092 (show _ < L by omega) (show L < 2 ^ 31 by omega) ?_
  refine R.dVi hc m_X6_film lk_L_142 dL_law_1093 (c_X6_film l 0 (L, xs) 59 hC hI _ _ _ _ _) hC.obj rfl rfl rfl (by omega) ⟨Nat.le_refl _, Nat.le_refl _⟩ (Nat.le_of_ble_eq_true rfl) (fun σ1 hX => ?_)
  obtain ⟨hP, hE⟩ := hX
  have hR := hR.ag (fun j h1 h2 => hE j (by omega))
  refine R.aload_n (j := 2) (i := 2) hc rfl rfl dL_law_1096 ?_
  refine R.aload_n (j := 0) (i := 0) hc rfl rfl dL_law_1097 ?_
  refine R.iload_n (j := 3) (i := 3) hc rfl rfl dL_law_1098 ?_
  refine R.iconst hc ic_1 dL_law_1099 ?_
  refine R.iaddN hc dL_law_1100 ?_
  refine R.sald hc dL_law_1101 (show _ < L by omega) (show L < 2 ^ 31 by omega) ?_
  refine R.aload_n (j := 0) (i := 0) hc rfl rfl dL_law_1102 ?_
  refine R.iload_n (j := 3) (i := 3) hc rfl rfl dL_law_1103 ?_
  refine R.iconst hc ic_2 dL_law_1104 ?_
  refine R.iaddN hc dL_law_1105 ?_
  refine R.sald hc dL_law_1106 (show _ < L by omega) (show L < 2 ^ 31 by omega) ?_
  refine R.aload_n (j := 0) (i := 0) hc rfl rfl dL_law_1107 ?_
  refine R.iload_n (j := 3) (i := 3) hc rfl rfl dL_law_1108 ?_
  refine R.iconst hc ic_3 dL_law_1109 ?_
  refine R.iaddN hc dL_law_1110 ?_
  refine R.sald hc dL_law_1111 (show _ < L by omega) (show L < 2 ^ 31 by omega) ?_
  refine R.aload_n (j := 0) (i := 0) hc rfl rfl dL_law_1112 ?_
  refine R.iload_n (j := 3) (i := 3) hc rfl rfl dL_law_1113 ?_
  refine R.iconst hc ic_4 dL_law_1114 ?_
  refine R.iaddN hc dL_law_1115 ?_
  refine R.sald hc dL_law_1116 (show _ < L by omega) (show L < 2 ^ 31 by omega) ?_
  refine R.aload_n (j := 0) (i := 0) hc rfl rfl dL_law_1117 ?_
  refine R.iload_n (j := 3) (i := 3) hc rfl rfl dL_law_1118 ?_
  refine R.iconst hc ic_5 dL_law_1119 ?_
  refine R.iaddN hc dL_law_1120 ?_
  refine R.sald hc dL_law_1121 (show _ < L by omega) (show L < 2 ^ 31 by omega) ?_
  refine R.dVi hc m_X7_film lk_L_146 dL_law_1122 (c_X7_film l 0 (L, xs) 59 hR hI _ _ _ _ _) hR.obj rfl rfl rfl (by omega) ⟨Nat.le_refl _, Nat.le_refl _⟩ (Nat.le_of_ble_eq_true rfl) (fun σ2 hX => ?_)
  obtain ⟨hP2, hE2⟩ := hX
  refine R.icmp_eq (tgt := 1342) hc dL_law_1125 (by decide) (fun _ => nxt σ2 ?_) (fun z => absurd rfl z)
  split at hP
  · rename_i h9
    rw [if_pos h9] at hP2
    exact LI.of hP hP2 hE2 (hI)
  · rename_i h9
    rw [if_neg h9] at hP2
    exact LI.of hP hP2 hE2 hI
set_option maxHeartbeats 4000000 in
set_option maxRecDepth 100000 in
theorem lw_sheet {cx : Cx} {l : Launch} {L : Nat} {xs : Nat → Int32} {Q : Option Value → Nat → Wd → Prop} (hc : cx = lw_cx l L xs Q) {i : Nat} {σ : Wd} (hi : i + 7 ≤ L) (hL : L ≤ 448) (hI : LI σ) (nxt : ∀ σ', LI σ' → R cx 59 1711 59 σ' 1342 (lw_ls i) []) : R cx 59 1711 59 σ 1130 (lw_ls i) [] := by
  obtain ⟨a, np, nq, hr, dr, hs, im, tp, tl, ln, sz, it, hC, hR, hI⟩ := hI
  refine R.aload_n (j := 1) (i := 1) hc rfl rfl dL_law_1130 ?_
  refine R.aload_n (j := 0) (i := 0) hc rfl rfl dL_law_1131 ?_
  refine R.iload_n (j := 3) (i := 3) hc rfl rfl dL_law_1132 ?_
  refine R.iconst hc ic_1 dL_law_1133 ?_
  refine R.iaddN hc dL_law_1134 ?_
  refine R.sald hc dL_law_1135 (show _ < L by omega) (show L < 2 ^ 31 by omega) ?_
  refine R.aload_n (j := 0) (i := 0) hc rfl rfl dL_law_1136 ?_
  refine R.iload_n (j := 3) (i := 3) hc rfl rfl dL_law_1137 ?_
  refine R.iconst hc ic_2 dL_law_1138 ?_
  refine R.iaddN hc dL_law_1139 ?_
  refine R.sald hc dL_law_1140 (show _ < L by omega) (show L < 2 ^ 31 by omega) ?_
  refine R.aload_n (j := 0) (i := 0) hc rfl rfl dL_law_1141 ?_
  refine R.iload_n (j := 3) (i := 3) hc rfl rfl dL_law_1142 ?_
  refine R.iconst hc ic_3 dL_law_1143 ?_
  refine R.iaddN hc dL_law_1144 ?_
  refine R.sald hc dL_law_1145 (show _ < L by omega) (show L < 2 ^ 31 by omega) ?_
  refine R.dVi hc m_X6_sheet lk_L_147 dL_law_1146 (c_X6_sheet l 0 (L, xs) 59 hC hI _ _ _) hC.obj rfl rfl rfl (by omega) ⟨Nat.le_refl _, Nat.le_refl _⟩ (Nat.le_of_ble_eq_true rfl) (fun σ1 hX => ?_)
  obtain ⟨hP, hE⟩ := hX
  have hR := hR.ag (fun j h1 h2 => hE j (by omega))
  refine R.aload_n (j := 2) (i := 2) hc rfl rfl dL_law_1149 ?_
  refine R.aload_n (j := 0) (i := 0) hc rfl rfl dL_law_1150 ?_
  refine R.iload_n (j := 3) (i := 3) hc rfl rfl dL_law_1151 ?_
  refine R.iconst hc ic_1 dL_law_1152 ?_
  refine R.iaddN hc dL_law_1153 ?_
  refine R.sald hc dL_law_1154 (show _ < L by omega) (show L < 2 ^ 31 by omega) ?_
  refine R.aload_n (j := 0) (i := 0) hc rfl rfl dL_law_1155 ?_
  refine R.iload_n (j := 3) (i := 3) hc rfl rfl dL_law_1156 ?_
  refine R.iconst hc ic_2 dL_law_1157 ?_
  refine R.iaddN hc dL_law_1158 ?_
  refine R.sald hc dL_law_1159 (show _ < L by omega) (show L < 2 ^ 31 by omega) ?_
  refine R.aload_n (j := 0) (i := 0) hc rfl rfl dL_law_1160 ?_
  refine R.iload_n (j := 3) (i := 3) hc rfl rfl dL_law_1161 ?_
  refine R.iconst hc ic_3 dL_law_1162 ?_
  refine R.iaddN hc dL_law_1163 ?_
  refine R.sald hc dL_law_1164 (show _ < L by omega) (show L < 2 ^ 31 by omega) ?_
  refine R.dVi hc m_X7_sheet lk_L_150 dL_law_1165 (c_X7_sheet l 0 (L, xs) 59 hR hI _ _ _) hR.obj rfl rfl rfl (by omega) ⟨Nat.le_refl _, Nat.le_refl _⟩ (Nat.le_of_ble_eq_true rfl) (fun σ2 hX => ?_)
  obtain ⟨hP2, hE2⟩ := hX
  refine R.icmp_eq (tgt := 1342) hc dL_law_1168 (by decide) (fun _ => nxt σ2 ?_) (fun z => absurd rfl z)
  split at hP
  · rename_i h9
    rw [if_pos h9] at hP2
    exact LI.of hP hP2 hE2 (hI.sheet h9)
  · rename_i h9
    rw [if_neg h9] at hP2
    exact LI.of hP hP2 hE2 hI
set_option maxHeartbeats 4000000 in
set_option maxRecDepth 100000 in
theorem lw_drop {cx : Cx} {l : Launch} {L : Nat} {xs : Nat → Int32} {Q : Option Value → Nat → Wd → Prop} (hc : cx = lw_cx l L xs Q) {i : Nat} {σ : Wd} (hi : i + 7 ≤ L) (hL : L ≤ 448) (hI : LI σ) (nxt : ∀ σ', LI σ' → R cx 59 1711 59 σ' 1342 (lw_ls i) []) : R cx 59 1711 59 σ 1173 (lw_ls i) [] := by
  obtain ⟨a, np, nq, hr, dr, hs, im, tp, tl, ln, sz, it, hC, hR, hI⟩ := hI
  refine R.aload_n (j := 1) (i := 1) hc rfl rfl dL_law_1173 ?_
  refine R.aload_n (j := 0) (i := 0) hc rfl rfl dL_law_1174 ?_
  refine R.iload_n (j := 3) (i := 3) hc rfl rfl dL_law_1175 ?_
  refine R.iconst hc ic_1 dL_law_1176 ?_
  refine R.iaddN hc dL_law_1177 ?_
  refine R.sald hc dL_law_1178 (show _ < L by omega) (show L < 2 ^ 31 by omega) ?_
  refine R.dVi hc m_X6_drop lk_L_151 dL_law_1179 (c_X6_drop l 0 (L, xs) 59 hC hI _) hC.obj rfl rfl rfl (by omega) ⟨Nat.le_refl _, Nat.le_refl _⟩ (Nat.le_of_ble_eq_true rfl) (fun σ1 hX => ?_)
  obtain ⟨hP, hE⟩ := hX
  have hR := hR.ag (fun j h1 h2 => hE j (by omega))
  refine R.aload_n (j := 2) (i := 2) hc rfl rfl dL_law_1182 ?_
  refine R.aload_n (j := 0) (i := 0) hc rfl rfl dL_law_1183 ?_
  refine R.iload_n (j := 3) (i := 3) hc rfl rfl dL_law_1184 ?_
  refine R.iconst hc ic_1 dL_law_1185 ?_
  refine R.iaddN hc dL_law_1186 ?_
  refine R.sald hc dL_law_1187 (show _ < L by omega) (show L < 2 ^ 31 by omega) ?_
  refine R.dVi hc m_X7_drop lk_L_154 dL_law_1188 (c_X7_drop l 0 (L, xs) 59 hR hI _) hR.obj rfl rfl rfl (by omega) ⟨Nat.le_refl _, Nat.le_refl _⟩ (Nat.le_of_ble_eq_true rfl) (fun σ2 hX => ?_)
  obtain ⟨hP2, hE2⟩ := hX
  refine R.icmp_eq (tgt := 1342) hc dL_law_1191 (by decide) (fun _ => nxt σ2 ?_) (fun z => absurd rfl z)
  split at hP
  · rename_i h9
    rw [if_pos h9] at hP2
    exact LI.of hP hP2 hE2 (hI.drop)
  · rename_i h9
    rw [if_neg h9] at hP2
    exact LI.of hP hP2 hE2 hI
set_option maxHeartbeats 4000000 in
set_option maxRecDepth 100000 in
theorem lw_item {cx : Cx} {l : Launch} {L : Nat} {xs : Nat → Int32} {Q : Option Value → Nat → Wd → Prop} (hc : cx = lw_cx l L xs Q) {i : Nat} {σ : Wd} (hi : i + 7 ≤ L) (hL : L ≤ 448) (hI : LI σ) (nxt : ∀ σ', LI σ' → R cx 59 1711 59 σ' 1342 (lw_ls i) []) : R cx 59 1711 59 σ 1196 (lw_ls i) [] := by
  obtain ⟨a, np, nq, hr, dr, hs, im, tp, tl, ln, sz, it, hC, hR, hI⟩ := hI
  refine R.aload_n (j := 1) (i := 1) hc rfl rfl dL_law_1196 ?_
  refine R.aload_n (j := 0) (i := 0) hc rfl rfl dL_law_1197 ?_
  refine R.iload_n (j := 3) (i := 3) hc rfl rfl dL_law_1198 ?_
  refine R.iconst hc ic_1 dL_law_1199 ?_
  refine R.iaddN hc dL_law_1200 ?_
  refine R.sald hc dL_law_1201 (show _ < L by omega) (show L < 2 ^ 31 by omega) ?_
  refine R.aload_n (j := 0) (i := 0) hc rfl rfl dL_law_1202 ?_
  refine R.iload_n (j := 3) (i := 3) hc rfl rfl dL_law_1203 ?_
  refine R.iconst hc ic_2 dL_law_1204 ?_
  refine R.iaddN hc dL_law_1205 ?_
  refine R.sald hc dL_law_1206 (show _ < L by omega) (show L < 2 ^ 31 by omega) ?_
  refine R.aload_n (j := 0) (i := 0) hc rfl rfl dL_law_1207 ?_
  refine R.iload_n (j := 3) (i := 3) hc rfl rfl dL_law_1208 ?_
  refine R.iconst hc ic_3 dL_law_1209 ?_
  refine R.iaddN hc dL_law_1210 ?_
  refine R.sald hc dL_law_1211 (show _ < L by omega) (show L < 2 ^ 31 by omega) ?_
  refine R.aload_n (j := 0) (i := 0) hc rfl rfl dL_law_1212 ?_
  refine R.iload_n (j := 3) (i := 3) hc rfl rfl dL_law_1213 ?_
  refine R.iconst hc ic_4 dL_law_1214 ?_
  refine R.iaddN hc dL_law_1215 ?_
  refine R.sald hc dL_law_1216 (show _ < L by omega) (show L < 2 ^ 31 by omega) ?_
  refine R.i2l hc dL_law_1217 ?_
  refine R.bipush hc bp_32 dL_law_1218 ?_
  refine R.lshl hc dL_law_1220 ?_
  refine R.aload_n (j := 0) (i := 0) hc rfl rfl dL_law_1221 ?_
  refine R.iload_n (j := 3) (i := 3) hc rfl rfl dL_law_1222 ?_
  refine R.iconst hc ic_5 dL_law_1223 ?_
  refine R.iaddN hc dL_law_1224 ?_
  refine R.sald hc dL_law_1225 (show _ < L by omega) (show L < 2 ^ 31 by omega) ?_
  refine R.i2l hc dL_law_1226 ?_
  refine R.ldc2 hc kn_L_155 dL_law_1227 ?_
  refine R.land hc dL_law_1230 ?_
  refine R.lor hc dL_law_1231 ?_
  refine R.dVi hc m_X6_item lk_L_157 dL_law_1232 (c_X6_item l 0 (L, xs) 59 hC hI _ _ _ _) hC.obj rfl rfl rfl (by omega) ⟨Nat.le_refl _, Nat.le_refl _⟩ (Nat.le_of_ble_eq_true rfl) (fun σ1 hX => ?_)
  obtain ⟨hP, hE⟩ := hX
  have hR := hR.ag (fun j h1 h2 => hE j (by omega))
  refine R.aload_n (j := 2) (i := 2) hc rfl rfl dL_law_1235 ?_
  refine R.aload_n (j := 0) (i := 0) hc rfl rfl dL_law_1236 ?_
  refine R.iload_n (j := 3) (i := 3) hc rfl rfl dL_law_1237 ?_
  refine R.iconst hc ic_1 dL_law_1238 ?_
  refine R.iaddN hc dL_law_1239 ?_
  refine R.sald hc dL_law_1240 (show _ < L by omega) (show L < 2 ^ 31 by omega) ?_
  refine R.aload_n (j := 0) (i := 0) hc rfl rfl dL_law_1241 ?_
  refine R.iload_n (j := 3) (i := 3) hc rfl rfl dL_law_1242 ?_
  refine R.iconst hc ic_2 dL_law_1243 ?_
  refine R.iaddN hc dL_law_1244 ?_
  refine R.sald hc dL_law_1245 (show _ < L by omega) (show L < 2 ^ 31 by omega) ?_
  refine R.aload_n (j := 0) (i := 0) hc rfl rfl dL_law_1246 ?_
  refine R.iload_n (j := 3) (i := 3) hc rfl rfl dL_law_1247 ?_
  refine R.iconst hc ic_3 dL_law_1248 ?_
  refine R.iaddN hc dL_law_1249 ?_
  refine R.sald hc dL_law_1250 (show _ < L by omega) (show L < 2 ^ 31 by omega) ?_
  refine R.aload_n (j := 0) (i := 0) hc rfl rfl dL_law_1251 ?_
  refine R.iload_n (j := 3) (i := 3) hc rfl rfl dL_law_1252 ?_
  refine R.iconst hc ic_4 dL_law_1253 ?_
  refine R.iaddN hc dL_law_1254 ?_
  refine R.sald hc dL_law_1255 (show _ < L by omega) (show L < 2 ^ 31 by omega) ?_
  refine R.i2l hc dL_law_1256 ?_
  refine R.bipush hc bp_32 dL_law_1257 ?_
  refine R.lshl hc dL_law_1259 ?_
  refine R.aload_n (j := 0) (i := 0) hc rfl rfl dL_law_1260 ?_
  refine R.iload_n (j := 3) (i := 3) hc rfl rfl dL_law_1261 ?_
  refine R.iconst hc ic_5 dL_law_1262 ?_
  refine R.iaddN hc dL_law_1263 ?_
  refine R.sald hc dL_law_1264 (show _ < L by omega) (show L < 2 ^ 31 by omega) ?_
  refine R.i2l hc dL_law_1265 ?_
  refine R.ldc2 hc kn_L_155 dL_law_1266 ?_
  refine R.land hc dL_law_1269 ?_
  refine R.lor hc dL_law_1270 ?_
  refine R.dVi hc m_X7_item lk_L_161 dL_law_1271 (c_X7_item l 0 (L, xs) 59 hR hI _ _ _ _) hR.obj rfl rfl rfl (by omega) ⟨Nat.le_refl _, Nat.le_refl _⟩ (Nat.le_of_ble_eq_true rfl) (fun σ2 hX => ?_)
  obtain ⟨hP2, hE2⟩ := hX
  refine R.icmp_eq (tgt := 1342) hc dL_law_1274 (by decide) (fun _ => nxt σ2 ?_) (fun z => absurd rfl z)
  split at hP
  · rename_i h9
    rw [if_pos h9] at hP2
    exact LI.of hP hP2 hE2 (hI)
  · rename_i h9
    rw [if_neg h9] at hP2
    exact LI.of hP hP2 hE2 hI
set_option maxHeartbeats 4000000 in
set_option maxRecDepth 100000 in
theorem lw_copy {cx : Cx} {l : Launch} {L : Nat} {xs : Nat → Int32} {Q : Option Value → Nat → Wd → Prop} (hc : cx = lw_cx l L xs Q) {i : Nat} {σ : Wd} (hi : i + 7 ≤ L) (hL : L ≤ 448) (hI : LI σ) (nxt : ∀ σ', LI σ' → R cx 59 1711 59 σ' 1342 (lw_ls i) []) : R cx 59 1711 59 σ 1279 (lw_ls i) [] := by
  obtain ⟨a, np, nq, hr, dr, hs, im, tp, tl, ln, sz, it, hC, hR, hI⟩ := hI
  refine R.aload_n (j := 1) (i := 1) hc rfl rfl dL_law_1279 ?_
  refine R.aload_n (j := 0) (i := 0) hc rfl rfl dL_law_1280 ?_
  refine R.iload_n (j := 3) (i := 3) hc rfl rfl dL_law_1281 ?_
  refine R.iconst hc ic_1 dL_law_1282 ?_
  refine R.iaddN hc dL_law_1283 ?_
  refine R.sald hc dL_law_1284 (show _ < L by omega) (show L < 2 ^ 31 by omega) ?_
  refine R.aload_n (j := 0) (i := 0) hc rfl rfl dL_law_1285 ?_
  refine R.iload_n (j := 3) (i := 3) hc rfl rfl dL_law_1286 ?_
  refine R.iconst hc ic_2 dL_law_1287 ?_
  refine R.iaddN hc dL_law_1288 ?_
  refine R.sald hc dL_law_1289 (show _ < L by omega) (show L < 2 ^ 31 by omega) ?_
  refine R.aload_n (j := 0) (i := 0) hc rfl rfl dL_law_1290 ?_
  refine R.iload_n (j := 3) (i := 3) hc rfl rfl dL_law_1291 ?_
  refine R.iconst hc ic_3 dL_law_1292 ?_
  refine R.iaddN hc dL_law_1293 ?_
  refine R.sald hc dL_law_1294 (show _ < L by omega) (show L < 2 ^ 31 by omega) ?_
  refine R.aload_n (j := 0) (i := 0) hc rfl rfl dL_law_1295 ?_
  refine R.iload_n (j := 3) (i := 3) hc rfl rfl dL_law_1296 ?_
  refine R.iconst hc ic_4 dL_law_1297 ?_
  refine R.iaddN hc dL_law_1298 ?_
  refine R.sald hc dL_law_1299 (show _ < L by omega) (show L < 2 ^ 31 by omega) ?_
  refine R.aload_n (j := 0) (i := 0) hc rfl rfl dL_law_1300 ?_
  refine R.iload_n (j := 3) (i := 3) hc rfl rfl dL_law_1301 ?_
  refine R.iconst hc ic_5 dL_law_1302 ?_
  refine R.iaddN hc dL_law_1303 ?_
  refine R.sald hc dL_law_1304 (show _ < L by omega) (show L < 2 ^ 31 by omega) ?_
  refine R.dVi hc m_X6_copy lk_L_162 dL_law_1305 (c_X6_copy l 0 (L, xs) 59 hC hI _ _ _ _ _) hC.obj rfl rfl rfl (by omega) ⟨Nat.le_refl _, Nat.le_refl _⟩ (Nat.le_of_ble_eq_true rfl) (fun σ1 hX => ?_)
  obtain ⟨hP, hE⟩ := hX
  have hR := hR.ag (fun j h1 h2 => hE j (by omega))
  refine R.aload_n (j := 2) (i := 2) hc rfl rfl dL_law_1308 ?_
  refine R.aload_n (j := 0) (i := 0) hc rfl rfl dL_law_1309 ?_
  refine R.iload_n (j := 3) (i := 3) hc rfl rfl dL_law_1310 ?_
  refine R.iconst hc ic_1 dL_law_1311 ?_
  refine R.iaddN hc dL_law_1312 ?_
  refine R.sald hc dL_law_1313 (show _ < L by omega) (show L < 2 ^ 31 by omega) ?_
  refine R.aload_n (j := 0) (i := 0) hc rfl rfl dL_law_1314 ?_
  refine R.iload_n (j := 3) (i := 3) hc rfl rfl dL_law_1315 ?_
  refine R.iconst hc ic_2 dL_law_1316 ?_
  refine R.iaddN hc dL_law_1317 ?_
  refine R.sald hc dL_law_1318 (show _ < L by omega) (show L < 2 ^ 31 by omega) ?_
  refine R.aload_n (j := 0) (i := 0) hc rfl rfl dL_law_1319 ?_
  refine R.iload_n (j := 3) (i := 3) hc rfl rfl dL_law_1320 ?_
  refine R.iconst hc ic_3 dL_law_1321 ?_
  refine R.iaddN hc dL_law_1322 ?_
  refine R.sald hc dL_law_1323 (show _ < L by omega) (show L < 2 ^ 31 by omega) ?_
  refine R.aload_n (j := 0) (i := 0) hc rfl rfl dL_law_1324 ?_
  refine R.iload_n (j := 3) (i := 3) hc rfl rfl dL_law_1325 ?_
  refine R.iconst hc ic_4 dL_law_1326 ?_
  refine R.iaddN hc dL_law_1327 ?_
  refine R.sald hc dL_law_1328 (show _ < L by omega) (show L < 2 ^ 31 by omega) ?_
  refine R.aload_n (j := 0) (i := 0) hc rfl rfl dL_law_1329 ?_
  refine R.iload_n (j := 3) (i := 3) hc rfl rfl dL_law_1330 ?_
  refine R.iconst hc ic_5 dL_law_1331 ?_
  refine R.iaddN hc dL_law_1332 ?_
  refine R.sald hc dL_law_1333 (show _ < L by omega) (show L < 2 ^ 31 by omega) ?_
  refine R.dVi hc m_X7_copy lk_L_165 dL_law_1334 (c_X7_copy l 0 (L, xs) 59 hR hI _ _ _ _ _) hR.obj rfl rfl rfl (by omega) ⟨Nat.le_refl _, Nat.le_refl _⟩ (Nat.le_of_ble_eq_true rfl) (fun σ2 hX => ?_)
  obtain ⟨hP2, hE2⟩ := hX
  refine R.icmp_eq (tgt := 1342) hc dL_law_1337 (by decide) (fun _ => nxt σ2 ?_) (fun z => absurd rfl z)
  split at hP
  · rename_i h9
    rw [if_pos h9] at hP2
    exact LI.of hP hP2 hE2 (hI)
  · rename_i h9
    rw [if_neg h9] at hP2
    exact LI.of hP hP2 hE2 hI
