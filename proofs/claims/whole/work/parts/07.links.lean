def rl_GR (own : String) (idx ci k : Nat) : Prop := ∃ (C : String) (T : u_T) (N : Nat), vwCl[ci]? = some (C, T, N) ∧ (∀ w ∈ u_ws C T N, w ∈ g_tbl) ∧ k < N ∧ Cond.fieldLink own idx (T k).1 (T k).2.1 (T k).2.2.1 ∈ g_tbl
theorem R.get {cx : Cx} {l : Launch} {y : MethodName} {cc : ByteArray} {nL : Nat} {ret : Option FieldType} {d mc ms n0 : Nat} {X : Nat × (Nat → Int32)} {Q : Option Value → Nat → Wd → Prop} {kc ks n : Nat} {σ : Wd} {pc : Nat} {ls : List (Option Value)} {st : List Value} (hc : cx = (l, y, cc, nL, ret, d, mc, ms, n0, X, Q)) {i idx ci k : Nat} {fs : List Value} {v : Value} (hg : rl_GR y.cls idx ci k) (hd : decode cc pc = .ok (.getfield idx, 3)) (he : σ i = some (.inr (ci, fs))) (hv : fs[k]? = some v) (kk : R cx kc ks n σ (pc + 3) ls (v :: st)) : R cx kc ks n σ pc ls (.ref i :: st) := by
  subst hc
  intro p e s m args below meth c dC dI dA E H locs la F hH hS hl
  obtain ⟨C, T, N, g1, g2, g5, g6⟩ := hg
  exact va_get (v := rl_tv E v) (fs := fs.map (rl_tv E)) F.1 F.2.1 F.2.2.2.2.2.1 g2 F.2.2.2.2.1 F.2.2.2.2.2.2.2.1 hH.2.2 i (rl_tw_at he (rl_lt hH he)) g1 k g5 (F.2.2.2.2.2.1 _ g6) (fun _ h => h) (by rw [List.getElem?_map, hv]; rfl) hd (kk p e s m args below meth c dC dI dA E H locs la F hH hS hl)
theorem m_X6_init : rl_MI yX6_init cX6_init 1 0 := ⟨(g_at 78 (by decide +kernel) rfl), rfl, (g_at 59 (by decide +kernel) rfl), (g_at 79 (by decide +kernel) rfl), ⟨by decide +kernel, by decide +kernel, by decide +kernel⟩, by decide⟩
theorem m_X4_init : rl_MI yX4_init cX4_init 1 0 := ⟨(g_at 86 (by decide +kernel) rfl), rfl, (g_at 60 (by decide +kernel) rfl), (g_at 87 (by decide +kernel) rfl), ⟨by decide +kernel, by decide +kernel, by decide +kernel⟩, by decide⟩
theorem m_X0_init : rl_MI yX0_init cX0_init 1 0 := ⟨(g_at 146 (by decide +kernel) rfl), rfl, (g_at 61 (by decide +kernel) rfl), (g_at 147 (by decide +kernel) rfl), ⟨by decide +kernel, by decide +kernel, by decide +kernel⟩, by decide⟩
theorem m_X5_init : rl_MI yX5_init cX5_init 1 0 := ⟨(g_at 163 (by decide +kernel) rfl), rfl, (g_at 62 (by decide +kernel) rfl), (g_at 164 (by decide +kernel) rfl), ⟨by decide +kernel, by decide +kernel, by decide +kernel⟩, by decide⟩
theorem m_X3_init : rl_MI yX3_init cX3_init 1 0 := ⟨(g_at 180 (by decide +kernel) rfl), rfl, (g_at 63 (by decide +kernel) rfl), (g_at 181 (by decide +kernel) rfl), ⟨by decide +kernel, by decide +kernel, by decide +kernel⟩, by decide⟩
theorem m_X1_init : rl_MI yX1_init cX1_init 1 0 := ⟨(g_at 198 (by decide +kernel) rfl), rfl, (g_at 64 (by decide +kernel) rfl), (g_at 199 (by decide +kernel) rfl), ⟨by decide +kernel, by decide +kernel, by decide +kernel⟩, by decide⟩
theorem m_X2_init : rl_MI yX2_init cX2_init 1 0 := ⟨(g_at 214 (by decide +kernel) rfl), rfl, (g_at 65 (by decide +kernel) rfl), (g_at 215 (by decide +kernel) rfl), ⟨by decide +kernel, by decide +kernel, by decide +kernel⟩, by decide⟩
theorem m_X6_puddle : rl_MV yX6_puddle cX6_puddle 5 (some .int) 3 := ⟨(g_at 269 (by decide +kernel) rfl), (g_at 270 (by decide +kernel) rfl), (g_at 59 (by decide +kernel) rfl), (g_at 271 (by decide +kernel) rfl), ⟨by decide +kernel, by decide +kernel, by decide +kernel⟩, by decide⟩
theorem m_X6_within : rl_MS yX6_within cX6_within 3 (some .boolean) 3 := ⟨(g_at 273 (by decide +kernel) rfl), (g_at 59 (by decide +kernel) rfl), (g_at 274 (by decide +kernel) rfl), ⟨by decide +kernel, by decide +kernel, by decide +kernel⟩, by decide⟩
theorem m_X6_isSight : rl_MS yX6_isSight cX6_isSight 1 (some .boolean) 1 := ⟨(g_at 276 (by decide +kernel) rfl), (g_at 59 (by decide +kernel) rfl), (g_at 277 (by decide +kernel) rfl), ⟨by decide +kernel, by decide +kernel, by decide +kernel⟩, by decide⟩
theorem m_X4_addPuddle : rl_MV yX4_addPuddle cX4_addPuddle 4 (some .int) 3 := ⟨(g_at 279 (by decide +kernel) rfl), (g_at 280 (by decide +kernel) rfl), (g_at 60 (by decide +kernel) rfl), (g_at 281 (by decide +kernel) rfl), ⟨by decide +kernel, by decide +kernel, by decide +kernel⟩, by decide⟩
theorem m_X0_forget : rl_MV yX0_forget cX0_forget 1 none 0 := ⟨(g_at 283 (by decide +kernel) rfl), (g_at 284 (by decide +kernel) rfl), (g_at 61 (by decide +kernel) rfl), (g_at 285 (by decide +kernel) rfl), ⟨by decide +kernel, by decide +kernel, by decide +kernel⟩, by decide⟩
theorem m_X6_person : rl_MV yX6_person cX6_person 5 (some .int) 3 := ⟨(g_at 287 (by decide +kernel) rfl), (g_at 288 (by decide +kernel) rfl), (g_at 59 (by decide +kernel) rfl), (g_at 289 (by decide +kernel) rfl), ⟨by decide +kernel, by decide +kernel, by decide +kernel⟩, by decide⟩
theorem m_X6_isComing : rl_MS yX6_isComing cX6_isComing 1 (some .boolean) 1 := ⟨(g_at 291 (by decide +kernel) rfl), (g_at 59 (by decide +kernel) rfl), (g_at 292 (by decide +kernel) rfl), ⟨by decide +kernel, by decide +kernel, by decide +kernel⟩, by decide⟩
theorem m_X4_addPerson : rl_MV yX4_addPerson cX4_addPerson 4 (some .int) 3 := ⟨(g_at 294 (by decide +kernel) rfl), (g_at 295 (by decide +kernel) rfl), (g_at 60 (by decide +kernel) rfl), (g_at 296 (by decide +kernel) rfl), ⟨by decide +kernel, by decide +kernel, by decide +kernel⟩, by decide⟩
theorem m_X6_show : rl_MV yX6_show cX6_show 4 (some .int) 2 := ⟨(g_at 298 (by decide +kernel) rfl), (g_at 299 (by decide +kernel) rfl), (g_at 59 (by decide +kernel) rfl), (g_at 300 (by decide +kernel) rfl), ⟨by decide +kernel, by decide +kernel, by decide +kernel⟩, by decide⟩
theorem m_X4_hasPuddle : rl_MV yX4_hasPuddle cX4_hasPuddle 2 (some .boolean) 1 := ⟨(g_at 302 (by decide +kernel) rfl), (g_at 303 (by decide +kernel) rfl), (g_at 60 (by decide +kernel) rfl), (g_at 304 (by decide +kernel) rfl), ⟨by decide +kernel, by decide +kernel, by decide +kernel⟩, by decide⟩
theorem m_X6_of : rl_MV yX6_of cX6_of 3 (some .int) 2 := ⟨(g_at 306 (by decide +kernel) rfl), (g_at 307 (by decide +kernel) rfl), (g_at 59 (by decide +kernel) rfl), (g_at 308 (by decide +kernel) rfl), ⟨by decide +kernel, by decide +kernel, by decide +kernel⟩, by decide⟩
theorem m_X4_claimantOf : rl_MV yX4_claimantOf cX4_claimantOf 3 (some .int) 1 := ⟨(g_at 310 (by decide +kernel) rfl), (g_at 311 (by decide +kernel) rfl), (g_at 60 (by decide +kernel) rfl), (g_at 312 (by decide +kernel) rfl), ⟨by decide +kernel, by decide +kernel, by decide +kernel⟩, by decide⟩
theorem m_X4_drySet : rl_MV yX4_drySet cX4_drySet 3 (some .int) 0 := ⟨(g_at 314 (by decide +kernel) rfl), (g_at 315 (by decide +kernel) rfl), (g_at 60 (by decide +kernel) rfl), (g_at 316 (by decide +kernel) rfl), ⟨by decide +kernel, by decide +kernel, by decide +kernel⟩, by decide⟩
theorem m_X4_isDry : rl_MV yX4_isDry cX4_isDry 2 (some .boolean) 1 := ⟨(g_at 318 (by decide +kernel) rfl), (g_at 319 (by decide +kernel) rfl), (g_at 60 (by decide +kernel) rfl), (g_at 320 (by decide +kernel) rfl), ⟨by decide +kernel, by decide +kernel, by decide +kernel⟩, by decide⟩
theorem m_X4_lessBy : rl_MV yX4_lessBy cX4_lessBy 3 (some .int) 2 := ⟨(g_at 322 (by decide +kernel) rfl), (g_at 323 (by decide +kernel) rfl), (g_at 60 (by decide +kernel) rfl), (g_at 324 (by decide +kernel) rfl), ⟨by decide +kernel, by decide +kernel, by decide +kernel⟩, by decide⟩
theorem m_X4_shadyLoss : rl_MS yX4_shadyLoss cX4_shadyLoss 0 (some .int) 0 := ⟨(g_at 326 (by decide +kernel) rfl), (g_at 60 (by decide +kernel) rfl), (g_at 327 (by decide +kernel) rfl), ⟨by decide +kernel, by decide +kernel, by decide +kernel⟩, by decide⟩
theorem m_X4_kerbLoss : rl_MV yX4_kerbLoss cX4_kerbLoss 1 (some .int) 0 := ⟨(g_at 330 (by decide +kernel) rfl), (g_at 0 (by decide +kernel) rfl), (g_at 60 (by decide +kernel) rfl), (g_at 331 (by decide +kernel) rfl), ⟨by decide +kernel, by decide +kernel, by decide +kernel⟩, by decide⟩
theorem m_X4_neighbours : rl_MS yX4_neighbours cX4_neighbours 2 (some .int) 1 := ⟨(g_at 333 (by decide +kernel) rfl), (g_at 60 (by decide +kernel) rfl), (g_at 334 (by decide +kernel) rfl), ⟨by decide +kernel, by decide +kernel, by decide +kernel⟩, by decide⟩
theorem m_J6_bitCount_0f7a4 : rl_MS yJ6_bitCount_0f7a4 cJ6_bitCount_0f7a4 1 (some .int) 1 := ⟨(g_at 336 (by decide +kernel) rfl), (g_at 67 (by decide +kernel) rfl), (g_at 337 (by decide +kernel) rfl), ⟨by decide +kernel, by decide +kernel, by decide +kernel⟩, by decide⟩
theorem m_X6_at : rl_MV yX6_at cX6_at 3 (some .int) 2 := ⟨(g_at 342 (by decide +kernel) rfl), (g_at 343 (by decide +kernel) rfl), (g_at 59 (by decide +kernel) rfl), (g_at 344 (by decide +kernel) rfl), ⟨by decide +kernel, by decide +kernel, by decide +kernel⟩, by decide⟩
theorem m_X4_hasPerson : rl_MV yX4_hasPerson cX4_hasPerson 2 (some .boolean) 1 := ⟨(g_at 346 (by decide +kernel) rfl), (g_at 347 (by decide +kernel) rfl), (g_at 60 (by decide +kernel) rfl), (g_at 348 (by decide +kernel) rfl), ⟨by decide +kernel, by decide +kernel, by decide +kernel⟩, by decide⟩
theorem m_X4_fitSet : rl_MV yX4_fitSet cX4_fitSet 5 (some .int) 1 := ⟨(g_at 350 (by decide +kernel) rfl), (g_at 351 (by decide +kernel) rfl), (g_at 60 (by decide +kernel) rfl), (g_at 352 (by decide +kernel) rfl), ⟨by decide +kernel, by decide +kernel, by decide +kernel⟩, by decide⟩
theorem m_X4_claimedSet : rl_MV yX4_claimedSet cX4_claimedSet 3 (some .int) 0 := ⟨(g_at 354 (by decide +kernel) rfl), (g_at 355 (by decide +kernel) rfl), (g_at 60 (by decide +kernel) rfl), (g_at 356 (by decide +kernel) rfl), ⟨by decide +kernel, by decide +kernel, by decide +kernel⟩, by decide⟩
theorem m_X4_hasClaimed : rl_MV yX4_hasClaimed cX4_hasClaimed 2 (some .boolean) 1 := ⟨(g_at 358 (by decide +kernel) rfl), (g_at 359 (by decide +kernel) rfl), (g_at 60 (by decide +kernel) rfl), (g_at 360 (by decide +kernel) rfl), ⟨by decide +kernel, by decide +kernel, by decide +kernel⟩, by decide⟩
theorem m_X4_isFit : rl_MV yX4_isFit cX4_isFit 5 (some .boolean) 4 := ⟨(g_at 363 (by decide +kernel) rfl), (g_at 1 (by decide +kernel) rfl), (g_at 60 (by decide +kernel) rfl), (g_at 364 (by decide +kernel) rfl), ⟨by decide +kernel, by decide +kernel, by decide +kernel⟩, by decide⟩
theorem m_X6_type : rl_MV yX6_type cX6_type 2 (some .int) 1 := ⟨(g_at 366 (by decide +kernel) rfl), (g_at 367 (by decide +kernel) rfl), (g_at 59 (by decide +kernel) rfl), (g_at 368 (by decide +kernel) rfl), ⟨by decide +kernel, by decide +kernel, by decide +kernel⟩, by decide⟩
theorem m_X5_add : rl_MV yX5_add cX5_add 2 (some .int) 1 := ⟨(g_at 370 (by decide +kernel) rfl), (g_at 371 (by decide +kernel) rfl), (g_at 62 (by decide +kernel) rfl), (g_at 372 (by decide +kernel) rfl), ⟨by decide +kernel, by decide +kernel, by decide +kernel⟩, by decide⟩
theorem m_X6_read : rl_MV yX6_read cX6_read 2 (some .int) 0 := ⟨(g_at 374 (by decide +kernel) rfl), (g_at 375 (by decide +kernel) rfl), (g_at 59 (by decide +kernel) rfl), (g_at 376 (by decide +kernel) rfl), ⟨by decide +kernel, by decide +kernel, by decide +kernel⟩, by decide⟩
theorem m_X5_parse : rl_MV yX5_parse cX5_parse 3 (some .int) 1 := ⟨(g_at 378 (by decide +kernel) rfl), (g_at 379 (by decide +kernel) rfl), (g_at 62 (by decide +kernel) rfl), (g_at 380 (by decide +kernel) rfl), ⟨by decide +kernel, by decide +kernel, by decide +kernel⟩, by decide⟩
theorem m_X4_empty : rl_MV yX4_empty cX4_empty 1 none 0 := ⟨(g_at 382 (by decide +kernel) rfl), (g_at 383 (by decide +kernel) rfl), (g_at 60 (by decide +kernel) rfl), (g_at 384 (by decide +kernel) rfl), ⟨by decide +kernel, by decide +kernel, by decide +kernel⟩, by decide⟩
theorem m_X5_parsePuddles : rl_MV yX5_parsePuddles cX5_parsePuddles 6 (some .int) 1 := ⟨(g_at 387 (by decide +kernel) rfl), (g_at 2 (by decide +kernel) rfl), (g_at 62 (by decide +kernel) rfl), (g_at 388 (by decide +kernel) rfl), ⟨by decide +kernel, by decide +kernel, by decide +kernel⟩, by decide⟩
theorem m_X5_take : rl_MV yX5_take cX5_take 2 (some .boolean) 1 := ⟨(g_at 391 (by decide +kernel) rfl), (g_at 3 (by decide +kernel) rfl), (g_at 62 (by decide +kernel) rfl), (g_at 392 (by decide +kernel) rfl), ⟨by decide +kernel, by decide +kernel, by decide +kernel⟩, by decide⟩
theorem m_X5_skipBlanks : rl_MV yX5_skipBlanks cX5_skipBlanks 1 none 0 := ⟨(g_at 395 (by decide +kernel) rfl), (g_at 4 (by decide +kernel) rfl), (g_at 62 (by decide +kernel) rfl), (g_at 396 (by decide +kernel) rfl), ⟨by decide +kernel, by decide +kernel, by decide +kernel⟩, by decide⟩
theorem m_X5_parseKind : rl_MV yX5_parseKind cX5_parseKind 2 (some .int) 0 := ⟨(g_at 399 (by decide +kernel) rfl), (g_at 5 (by decide +kernel) rfl), (g_at 62 (by decide +kernel) rfl), (g_at 400 (by decide +kernel) rfl), ⟨by decide +kernel, by decide +kernel, by decide +kernel⟩, by decide⟩
theorem m_J0_indexOf_0f7a4 : rl_MV yJ0_indexOf_0f7a4 cJ0_indexOf_0f7a4 2 (some .int) 1 := ⟨(g_at 403 (by decide +kernel) rfl), (g_at 404 (by decide +kernel) rfl), (g_at 68 (by decide +kernel) rfl), (g_at 405 (by decide +kernel) rfl), ⟨by decide +kernel, by decide +kernel, by decide +kernel⟩, by decide⟩
theorem m_J0_indexOf_7cf53 : rl_MV yJ0_indexOf_7cf53 cJ0_indexOf_7cf53 3 (some .int) 2 := ⟨(g_at 407 (by decide +kernel) rfl), (g_at 408 (by decide +kernel) rfl), (g_at 68 (by decide +kernel) rfl), (g_at 409 (by decide +kernel) rfl), ⟨by decide +kernel, by decide +kernel, by decide +kernel⟩, by decide⟩
theorem m_J0_isLatin1_aae02 : rl_MV yJ0_isLatin1_aae02 cJ0_isLatin1_aae02 1 (some .boolean) 0 := ⟨(g_at 411 (by decide +kernel) rfl), (g_at 412 (by decide +kernel) rfl), (g_at 68 (by decide +kernel) rfl), (g_at 413 (by decide +kernel) rfl), ⟨by decide +kernel, by decide +kernel, by decide +kernel⟩, by decide⟩
theorem m_J0_length_8abf5 : rl_MV yJ0_length_8abf5 cJ0_length_8abf5 1 (some .int) 0 := ⟨(g_at 417 (by decide +kernel) rfl), (g_at 418 (by decide +kernel) rfl), (g_at 68 (by decide +kernel) rfl), (g_at 419 (by decide +kernel) rfl), ⟨by decide +kernel, by decide +kernel, by decide +kernel⟩, by decide⟩
theorem m_J0_coder_7d493 : rl_MV yJ0_coder_7d493 cJ0_coder_7d493 1 (some .byte) 0 := ⟨(g_at 421 (by decide +kernel) rfl), (g_at 422 (by decide +kernel) rfl), (g_at 68 (by decide +kernel) rfl), (g_at 423 (by decide +kernel) rfl), ⟨by decide +kernel, by decide +kernel, by decide +kernel⟩, by decide⟩
theorem m_J1_indexOf_4cfef : rl_MS yJ1_indexOf_4cfef cJ1_indexOf_4cfef 4 (some .int) 4 := ⟨(g_at 425 (by decide +kernel) rfl), (g_at 69 (by decide +kernel) rfl), (g_at 426 (by decide +kernel) rfl), ⟨by decide +kernel, by decide +kernel, by decide +kernel⟩, by decide⟩
theorem m_J1_canEncode_9a6ad : rl_MS yJ1_canEncode_9a6ad cJ1_canEncode_9a6ad 1 (some .boolean) 1 := ⟨(g_at 428 (by decide +kernel) rfl), (g_at 69 (by decide +kernel) rfl), (g_at 429 (by decide +kernel) rfl), ⟨by decide +kernel, by decide +kernel, by decide +kernel⟩, by decide⟩
theorem m_J9_max_7cf53 : rl_MS yJ9_max_7cf53 cJ9_max_7cf53 2 (some .int) 2 := ⟨(g_at 431 (by decide +kernel) rfl), (g_at 70 (by decide +kernel) rfl), (g_at 432 (by decide +kernel) rfl), ⟨by decide +kernel, by decide +kernel, by decide +kernel⟩, by decide⟩
theorem m_J9_min_7cf53 : rl_MS yJ9_min_7cf53 cJ9_min_7cf53 2 (some .int) 2 := ⟨(g_at 434 (by decide +kernel) rfl), (g_at 70 (by decide +kernel) rfl), (g_at 435 (by decide +kernel) rfl), ⟨by decide +kernel, by decide +kernel, by decide +kernel⟩, by decide⟩
theorem m_J1_indexOfChar_4cfef : rl_MS yJ1_indexOfChar_4cfef cJ1_indexOfChar_4cfef 6 (some .int) 4 := ⟨(g_at 437 (by decide +kernel) rfl), (g_at 69 (by decide +kernel) rfl), (g_at 438 (by decide +kernel) rfl), ⟨by decide +kernel, by decide +kernel, by decide +kernel⟩, by decide⟩
theorem m_J2_indexOf_4cfef : rl_MS yJ2_indexOf_4cfef cJ2_indexOf_4cfef 4 (some .int) 4 := ⟨(g_at 440 (by decide +kernel) rfl), (g_at 71 (by decide +kernel) rfl), (g_at 441 (by decide +kernel) rfl), ⟨by decide +kernel, by decide +kernel, by decide +kernel⟩, by decide⟩
theorem m_J2_indexOfChar_4cfef : rl_MS yJ2_indexOfChar_4cfef cJ2_indexOfChar_4cfef 4 (some .int) 4 := ⟨(g_at 446 (by decide +kernel) rfl), (g_at 71 (by decide +kernel) rfl), (g_at 447 (by decide +kernel) rfl), ⟨by decide +kernel, by decide +kernel, by decide +kernel⟩, by decide⟩
theorem m_J2_checkBoundsBeginEnd_d044e : rl_MS yJ2_checkBoundsBeginEnd_d044e cJ2_checkBoundsBeginEnd_d044e 3 none 3 := ⟨(g_at 449 (by decide +kernel) rfl), (g_at 71 (by decide +kernel) rfl), (g_at 450 (by decide +kernel) rfl), ⟨by decide +kernel, by decide +kernel, by decide +kernel⟩, by decide⟩
theorem m_J2_length_9d52b : rl_MS yJ2_length_9d52b cJ2_length_9d52b 1 (some .int) 1 := ⟨(g_at 452 (by decide +kernel) rfl), (g_at 71 (by decide +kernel) rfl), (g_at 453 (by decide +kernel) rfl), ⟨by decide +kernel, by decide +kernel, by decide +kernel⟩, by decide⟩
theorem m_J0_checkBoundsBeginEnd_23922 : rl_MS yJ0_checkBoundsBeginEnd_23922 cJ0_checkBoundsBeginEnd_23922 3 none 3 := ⟨(g_at 455 (by decide +kernel) rfl), (g_at 68 (by decide +kernel) rfl), (g_at 456 (by decide +kernel) rfl), ⟨by decide +kernel, by decide +kernel, by decide +kernel⟩, by decide⟩
theorem m_J3_checkFromToIndex_8c36e : rl_MS yJ3_checkFromToIndex_8c36e cJ3_checkFromToIndex_8c36e 4 (some .int) 4 := ⟨(g_at 460 (by decide +kernel) rfl), (g_at 72 (by decide +kernel) rfl), (g_at 461 (by decide +kernel) rfl), ⟨by decide +kernel, by decide +kernel, by decide +kernel⟩, by decide⟩
theorem m_J2_indexOfCharUnsafe_4cfef : rl_MS yJ2_indexOfCharUnsafe_4cfef cJ2_indexOfCharUnsafe_4cfef 5 (some .int) 4 := ⟨(g_at 463 (by decide +kernel) rfl), (g_at 71 (by decide +kernel) rfl), (g_at 464 (by decide +kernel) rfl), ⟨by decide +kernel, by decide +kernel, by decide +kernel⟩, by decide⟩
theorem m_J2_getChar_3b067 : rl_MS yJ2_getChar_3b067 cJ2_getChar_3b067 2 (some .char) 2 := ⟨(g_at 466 (by decide +kernel) rfl), (g_at 71 (by decide +kernel) rfl), (g_at 467 (by decide +kernel) rfl), ⟨by decide +kernel, by decide +kernel, by decide +kernel⟩, by decide⟩
theorem m_J2_indexOfSupplementary_4cfef : rl_MS yJ2_indexOfSupplementary_4cfef cJ2_indexOfSupplementary_4cfef 7 (some .int) 4 := ⟨(g_at 475 (by decide +kernel) rfl), (g_at 71 (by decide +kernel) rfl), (g_at 476 (by decide +kernel) rfl), ⟨by decide +kernel, by decide +kernel, by decide +kernel⟩, by decide⟩
theorem m_J11_isValidCodePoint_9a6ad : rl_MS yJ11_isValidCodePoint_9a6ad cJ11_isValidCodePoint_9a6ad 2 (some .boolean) 1 := ⟨(g_at 478 (by decide +kernel) rfl), (g_at 73 (by decide +kernel) rfl), (g_at 479 (by decide +kernel) rfl), ⟨by decide +kernel, by decide +kernel, by decide +kernel⟩, by decide⟩
theorem m_J11_highSurrogate_5068e : rl_MS yJ11_highSurrogate_5068e cJ11_highSurrogate_5068e 1 (some .char) 1 := ⟨(g_at 481 (by decide +kernel) rfl), (g_at 73 (by decide +kernel) rfl), (g_at 482 (by decide +kernel) rfl), ⟨by decide +kernel, by decide +kernel, by decide +kernel⟩, by decide⟩
theorem m_J11_lowSurrogate_5068e : rl_MS yJ11_lowSurrogate_5068e cJ11_lowSurrogate_5068e 1 (some .char) 1 := ⟨(g_at 485 (by decide +kernel) rfl), (g_at 73 (by decide +kernel) rfl), (g_at 486 (by decide +kernel) rfl), ⟨by decide +kernel, by decide +kernel, by decide +kernel⟩, by decide⟩
theorem m_X5_faultAt : rl_MS yX5_faultAt cX5_faultAt 1 (some .int) 1 := ⟨(g_at 489 (by decide +kernel) rfl), (g_at 62 (by decide +kernel) rfl), (g_at 490 (by decide +kernel) rfl), ⟨by decide +kernel, by decide +kernel, by decide +kernel⟩, by decide⟩
theorem m_X5_parseSight : rl_MV yX5_parseSight cX5_parseSight 2 (some .int) 0 := ⟨(g_at 493 (by decide +kernel) rfl), (g_at 6 (by decide +kernel) rfl), (g_at 62 (by decide +kernel) rfl), (g_at 494 (by decide +kernel) rfl), ⟨by decide +kernel, by decide +kernel, by decide +kernel⟩, by decide⟩
theorem m_X5_digitHere : rl_MV yX5_digitHere cX5_digitHere 1 (some .int) 0 := ⟨(g_at 497 (by decide +kernel) rfl), (g_at 7 (by decide +kernel) rfl), (g_at 62 (by decide +kernel) rfl), (g_at 498 (by decide +kernel) rfl), ⟨by decide +kernel, by decide +kernel, by decide +kernel⟩, by decide⟩
theorem m_X5_parseNumber : rl_MV yX5_parseNumber cX5_parseNumber 6 (some .int) 2 := ⟨(g_at 501 (by decide +kernel) rfl), (g_at 8 (by decide +kernel) rfl), (g_at 62 (by decide +kernel) rfl), (g_at 502 (by decide +kernel) rfl), ⟨by decide +kernel, by decide +kernel, by decide +kernel⟩, by decide⟩
theorem m_X5_parsePeople : rl_MV yX5_parsePeople cX5_parsePeople 6 (some .int) 1 := ⟨(g_at 506 (by decide +kernel) rfl), (g_at 9 (by decide +kernel) rfl), (g_at 62 (by decide +kernel) rfl), (g_at 507 (by decide +kernel) rfl), ⟨by decide +kernel, by decide +kernel, by decide +kernel⟩, by decide⟩
theorem m_X4_copyFrom : rl_MV yX4_copyFrom cX4_copyFrom 2 none 1 := ⟨(g_at 510 (by decide +kernel) rfl), (g_at 511 (by decide +kernel) rfl), (g_at 60 (by decide +kernel) rfl), (g_at 512 (by decide +kernel) rfl), ⟨by decide +kernel, by decide +kernel, by decide +kernel⟩, by decide⟩
theorem m_X6_count : rl_MV yX6_count cX6_count 2 (some .int) 1 := ⟨(g_at 518 (by decide +kernel) rfl), (g_at 519 (by decide +kernel) rfl), (g_at 59 (by decide +kernel) rfl), (g_at 520 (by decide +kernel) rfl), ⟨by decide +kernel, by decide +kernel, by decide +kernel⟩, by decide⟩
theorem m_X4_depthOfAll : rl_MV yX4_depthOfAll cX4_depthOfAll 3 (some .int) 0 := ⟨(g_at 522 (by decide +kernel) rfl), (g_at 523 (by decide +kernel) rfl), (g_at 60 (by decide +kernel) rfl), (g_at 524 (by decide +kernel) rfl), ⟨by decide +kernel, by decide +kernel, by decide +kernel⟩, by decide⟩
theorem m_X4_claimants : rl_MV yX4_claimants cX4_claimants 3 (some .int) 0 := ⟨(g_at 526 (by decide +kernel) rfl), (g_at 527 (by decide +kernel) rfl), (g_at 60 (by decide +kernel) rfl), (g_at 528 (by decide +kernel) rfl), ⟨by decide +kernel, by decide +kernel, by decide +kernel⟩, by decide⟩
theorem m_X6_hours : rl_MV yX6_hours cX6_hours 2 (some .int) 1 := ⟨(g_at 531 (by decide +kernel) rfl), (g_at 532 (by decide +kernel) rfl), (g_at 59 (by decide +kernel) rfl), (g_at 533 (by decide +kernel) rfl), ⟨by decide +kernel, by decide +kernel, by decide +kernel⟩, by decide⟩
theorem m_X6_passHours : rl_MV yX6_passHours cX6_passHours 4 (some .int) 2 := ⟨(g_at 536 (by decide +kernel) rfl), (g_at 10 (by decide +kernel) rfl), (g_at 59 (by decide +kernel) rfl), (g_at 537 (by decide +kernel) rfl), ⟨by decide +kernel, by decide +kernel, by decide +kernel⟩, by decide⟩
theorem m_X0_remember : rl_MV yX0_remember cX0_remember 3 none 1 := ⟨(g_at 539 (by decide +kernel) rfl), (g_at 540 (by decide +kernel) rfl), (g_at 61 (by decide +kernel) rfl), (g_at 541 (by decide +kernel) rfl), ⟨by decide +kernel, by decide +kernel, by decide +kernel⟩, by decide⟩
theorem m_X4_drawCart : rl_MV yX4_drawCart cX4_drawCart 1 none 0 := ⟨(g_at 545 (by decide +kernel) rfl), (g_at 546 (by decide +kernel) rfl), (g_at 60 (by decide +kernel) rfl), (g_at 547 (by decide +kernel) rfl), ⟨by decide +kernel, by decide +kernel, by decide +kernel⟩, by decide⟩
theorem m_X4_halve : rl_MV yX4_halve cX4_halve 2 none 1 := ⟨(g_at 552 (by decide +kernel) rfl), (g_at 553 (by decide +kernel) rfl), (g_at 60 (by decide +kernel) rfl), (g_at 554 (by decide +kernel) rfl), ⟨by decide +kernel, by decide +kernel, by decide +kernel⟩, by decide⟩
theorem m_X4_passHour : rl_MV yX4_passHour cX4_passHour 1 none 0 := ⟨(g_at 556 (by decide +kernel) rfl), (g_at 557 (by decide +kernel) rfl), (g_at 60 (by decide +kernel) rfl), (g_at 558 (by decide +kernel) rfl), ⟨by decide +kernel, by decide +kernel, by decide +kernel⟩, by decide⟩
theorem m_X4_letClaim : rl_MV yX4_letClaim cX4_letClaim 2 none 0 := ⟨(g_at 561 (by decide +kernel) rfl), (g_at 11 (by decide +kernel) rfl), (g_at 60 (by decide +kernel) rfl), (g_at 562 (by decide +kernel) rfl), ⟨by decide +kernel, by decide +kernel, by decide +kernel⟩, by decide⟩
theorem m_X4_deepestFit : rl_MV yX4_deepestFit cX4_deepestFit 8 (some .int) 4 := ⟨(g_at 564 (by decide +kernel) rfl), (g_at 565 (by decide +kernel) rfl), (g_at 60 (by decide +kernel) rfl), (g_at 566 (by decide +kernel) rfl), ⟨by decide +kernel, by decide +kernel, by decide +kernel⟩, by decide⟩
theorem m_X4_lessen : rl_MV yX4_lessen cX4_lessen 3 none 0 := ⟨(g_at 568 (by decide +kernel) rfl), (g_at 569 (by decide +kernel) rfl), (g_at 60 (by decide +kernel) rfl), (g_at 570 (by decide +kernel) rfl), ⟨by decide +kernel, by decide +kernel, by decide +kernel⟩, by decide⟩
theorem m_X6_rain : rl_MV yX6_rain cX6_rain 2 (some .int) 1 := ⟨(g_at 575 (by decide +kernel) rfl), (g_at 576 (by decide +kernel) rfl), (g_at 59 (by decide +kernel) rfl), (g_at 577 (by decide +kernel) rfl), ⟨by decide +kernel, by decide +kernel, by decide +kernel⟩, by decide⟩
theorem m_X4_deepen : rl_MV yX4_deepen cX4_deepen 3 none 1 := ⟨(g_at 579 (by decide +kernel) rfl), (g_at 580 (by decide +kernel) rfl), (g_at 60 (by decide +kernel) rfl), (g_at 581 (by decide +kernel) rfl), ⟨by decide +kernel, by decide +kernel, by decide +kernel⟩, by decide⟩
theorem m_X6_drive : rl_MV yX6_drive cX6_drive 2 (some .int) 1 := ⟨(g_at 584 (by decide +kernel) rfl), (g_at 585 (by decide +kernel) rfl), (g_at 59 (by decide +kernel) rfl), (g_at 586 (by decide +kernel) rfl), ⟨by decide +kernel, by decide +kernel, by decide +kernel⟩, by decide⟩
theorem m_X6_send : rl_MV yX6_send cX6_send 3 (some .int) 1 := ⟨(g_at 590 (by decide +kernel) rfl), (g_at 591 (by decide +kernel) rfl), (g_at 59 (by decide +kernel) rfl), (g_at 592 (by decide +kernel) rfl), ⟨by decide +kernel, by decide +kernel, by decide +kernel⟩, by decide⟩
theorem m_X6_later : rl_MV yX6_later cX6_later 4 (some .int) 2 := ⟨(g_at 595 (by decide +kernel) rfl), (g_at 596 (by decide +kernel) rfl), (g_at 59 (by decide +kernel) rfl), (g_at 597 (by decide +kernel) rfl), ⟨by decide +kernel, by decide +kernel, by decide +kernel⟩, by decide⟩
theorem m_X6_drift : rl_MV yX6_drift cX6_drift 2 (some .int) 1 := ⟨(g_at 599 (by decide +kernel) rfl), (g_at 600 (by decide +kernel) rfl), (g_at 59 (by decide +kernel) rfl), (g_at 601 (by decide +kernel) rfl), ⟨by decide +kernel, by decide +kernel, by decide +kernel⟩, by decide⟩
theorem m_X6_undo : rl_MV yX6_undo cX6_undo 1 (some .int) 0 := ⟨(g_at 603 (by decide +kernel) rfl), (g_at 604 (by decide +kernel) rfl), (g_at 59 (by decide +kernel) rfl), (g_at 605 (by decide +kernel) rfl), ⟨by decide +kernel, by decide +kernel, by decide +kernel⟩, by decide⟩
theorem m_X0_recall : rl_MV yX0_recall cX0_recall 3 (some .boolean) 1 := ⟨(g_at 607 (by decide +kernel) rfl), (g_at 608 (by decide +kernel) rfl), (g_at 61 (by decide +kernel) rfl), (g_at 609 (by decide +kernel) rfl), ⟨by decide +kernel, by decide +kernel, by decide +kernel⟩, by decide⟩
theorem m_X6_seed : rl_MV yX6_seed cX6_seed 3 (some .int) 1 := ⟨(g_at 611 (by decide +kernel) rfl), (g_at 612 (by decide +kernel) rfl), (g_at 59 (by decide +kernel) rfl), (g_at 613 (by decide +kernel) rfl), ⟨by decide +kernel, by decide +kernel, by decide +kernel⟩, by decide⟩
theorem m_X6_ahead : rl_MV yX6_ahead cX6_ahead 4 (some .int) 2 := ⟨(g_at 615 (by decide +kernel) rfl), (g_at 616 (by decide +kernel) rfl), (g_at 59 (by decide +kernel) rfl), (g_at 617 (by decide +kernel) rfl), ⟨by decide +kernel, by decide +kernel, by decide +kernel⟩, by decide⟩
theorem m_X6_claims : rl_MV yX6_claims cX6_claims 3 (some .int) 2 := ⟨(g_at 619 (by decide +kernel) rfl), (g_at 620 (by decide +kernel) rfl), (g_at 59 (by decide +kernel) rfl), (g_at 621 (by decide +kernel) rfl), ⟨by decide +kernel, by decide +kernel, by decide +kernel⟩, by decide⟩
theorem m_X4_claimantsBehind : rl_MV yX4_claimantsBehind cX4_claimantsBehind 3 (some .int) 1 := ⟨(g_at 623 (by decide +kernel) rfl), (g_at 624 (by decide +kernel) rfl), (g_at 60 (by decide +kernel) rfl), (g_at 625 (by decide +kernel) rfl), ⟨by decide +kernel, by decide +kernel, by decide +kernel⟩, by decide⟩
theorem m_X4_isAnyoneToCome : rl_MV yX4_isAnyoneToCome cX4_isAnyoneToCome 2 (some .boolean) 0 := ⟨(g_at 628 (by decide +kernel) rfl), (g_at 12 (by decide +kernel) rfl), (g_at 60 (by decide +kernel) rfl), (g_at 629 (by decide +kernel) rfl), ⟨by decide +kernel, by decide +kernel, by decide +kernel⟩, by decide⟩
theorem m_X6_then : rl_MV yX6_then cX6_then 2 (some .int) 1 := ⟨(g_at 633 (by decide +kernel) rfl), (g_at 634 (by decide +kernel) rfl), (g_at 59 (by decide +kernel) rfl), (g_at 635 (by decide +kernel) rfl), ⟨by decide +kernel, by decide +kernel, by decide +kernel⟩, by decide⟩
theorem m_X6_served : rl_MV yX6_served cX6_served 3 (some .int) 1 := ⟨(g_at 637 (by decide +kernel) rfl), (g_at 638 (by decide +kernel) rfl), (g_at 59 (by decide +kernel) rfl), (g_at 639 (by decide +kernel) rfl), ⟨by decide +kernel, by decide +kernel, by decide +kernel⟩, by decide⟩
theorem m_X6_dries : rl_MV yX6_dries cX6_dries 3 (some .int) 1 := ⟨(g_at 641 (by decide +kernel) rfl), (g_at 642 (by decide +kernel) rfl), (g_at 59 (by decide +kernel) rfl), (g_at 643 (by decide +kernel) rfl), ⟨by decide +kernel, by decide +kernel, by decide +kernel⟩, by decide⟩
theorem m_X6_match : rl_MV yX6_match cX6_match 1 (some .int) 0 := ⟨(g_at 645 (by decide +kernel) rfl), (g_at 646 (by decide +kernel) rfl), (g_at 59 (by decide +kernel) rfl), (g_at 647 (by decide +kernel) rfl), ⟨by decide +kernel, by decide +kernel, by decide +kernel⟩, by decide⟩
theorem m_X1_greatest : rl_MV yX1_greatest cX1_greatest 4 (some .int) 1 := ⟨(g_at 649 (by decide +kernel) rfl), (g_at 650 (by decide +kernel) rfl), (g_at 64 (by decide +kernel) rfl), (g_at 651 (by decide +kernel) rfl), ⟨by decide +kernel, by decide +kernel, by decide +kernel⟩, by decide⟩
theorem m_X1_findsOne : rl_MV yX1_findsOne cX1_findsOne 5 (some .boolean) 2 := ⟨(g_at 656 (by decide +kernel) rfl), (g_at 13 (by decide +kernel) rfl), (g_at 64 (by decide +kernel) rfl), (g_at 657 (by decide +kernel) rfl), ⟨by decide +kernel, by decide +kernel, by decide +kernel⟩, by decide⟩
theorem m_X6_latest : rl_MV yX6_latest cX6_latest 3 (some .int) 1 := ⟨(g_at 659 (by decide +kernel) rfl), (g_at 660 (by decide +kernel) rfl), (g_at 59 (by decide +kernel) rfl), (g_at 661 (by decide +kernel) rfl), ⟨by decide +kernel, by decide +kernel, by decide +kernel⟩, by decide⟩
theorem m_X6_order : rl_MV yX6_order cX6_order 3 (some .int) 2 := ⟨(g_at 663 (by decide +kernel) rfl), (g_at 664 (by decide +kernel) rfl), (g_at 59 (by decide +kernel) rfl), (g_at 665 (by decide +kernel) rfl), ⟨by decide +kernel, by decide +kernel, by decide +kernel⟩, by decide⟩
theorem m_X2_search : rl_MV yX2_search cX2_search 6 none 2 := ⟨(g_at 667 (by decide +kernel) rfl), (g_at 668 (by decide +kernel) rfl), (g_at 65 (by decide +kernel) rfl), (g_at 669 (by decide +kernel) rfl), ⟨by decide +kernel, by decide +kernel, by decide +kernel⟩, by decide⟩
theorem m_X2_choose : rl_MV yX2_choose cX2_choose 9 none 5 := ⟨(g_at 677 (by decide +kernel) rfl), (g_at 14 (by decide +kernel) rfl), (g_at 65 (by decide +kernel) rfl), (g_at 678 (by decide +kernel) rfl), ⟨by decide +kernel, by decide +kernel, by decide +kernel⟩, by decide⟩
theorem m_X2_nth : rl_MV yX2_nth cX2_nth 2 (some .int) 1 := ⟨(g_at 681 (by decide +kernel) rfl), (g_at 682 (by decide +kernel) rfl), (g_at 65 (by decide +kernel) rfl), (g_at 683 (by decide +kernel) rfl), ⟨by decide +kernel, by decide +kernel, by decide +kernel⟩, by decide⟩
theorem m_X6_wet : rl_MV yX6_wet cX6_wet 3 (some .int) 1 := ⟨(g_at 685 (by decide +kernel) rfl), (g_at 686 (by decide +kernel) rfl), (g_at 59 (by decide +kernel) rfl), (g_at 687 (by decide +kernel) rfl), ⟨by decide +kernel, by decide +kernel, by decide +kernel⟩, by decide⟩
theorem m_X6_matters : rl_MV yX6_matters cX6_matters 7 (some .int) 2 := ⟨(g_at 690 (by decide +kernel) rfl), (g_at 691 (by decide +kernel) rfl), (g_at 59 (by decide +kernel) rfl), (g_at 692 (by decide +kernel) rfl), ⟨by decide +kernel, by decide +kernel, by decide +kernel⟩, by decide⟩
theorem m_X6_sight : rl_MV yX6_sight cX6_sight 8 (some .int) 3 := ⟨(g_at 694 (by decide +kernel) rfl), (g_at 695 (by decide +kernel) rfl), (g_at 59 (by decide +kernel) rfl), (g_at 696 (by decide +kernel) rfl), ⟨by decide +kernel, by decide +kernel, by decide +kernel⟩, by decide⟩
theorem m_X6_carts : rl_MV yX6_carts cX6_carts 7 (some .int) 3 := ⟨(g_at 698 (by decide +kernel) rfl), (g_at 699 (by decide +kernel) rfl), (g_at 59 (by decide +kernel) rfl), (g_at 700 (by decide +kernel) rfl), ⟨by decide +kernel, by decide +kernel, by decide +kernel⟩, by decide⟩
theorem m_X6_weightOf : rl_MV yX6_weightOf cX6_weightOf 6 (some .int) 2 := ⟨(g_at 703 (by decide +kernel) rfl), (g_at 15 (by decide +kernel) rfl), (g_at 59 (by decide +kernel) rfl), (g_at 704 (by decide +kernel) rfl), ⟨by decide +kernel, by decide +kernel, by decide +kernel⟩, by decide⟩
theorem m_X6_hasClaimedBehindCarts : rl_MV yX6_hasClaimedBehindCarts cX6_hasClaimedBehindCarts 4 (some .boolean) 2 := ⟨(g_at 707 (by decide +kernel) rfl), (g_at 16 (by decide +kernel) rfl), (g_at 59 (by decide +kernel) rfl), (g_at 708 (by decide +kernel) rfl), ⟨by decide +kernel, by decide +kernel, by decide +kernel⟩, by decide⟩
theorem m_X6_weightOfAll : rl_MV yX6_weightOfAll cX6_weightOfAll 3 (some .int) 0 := ⟨(g_at 711 (by decide +kernel) rfl), (g_at 17 (by decide +kernel) rfl), (g_at 59 (by decide +kernel) rfl), (g_at 712 (by decide +kernel) rfl), ⟨by decide +kernel, by decide +kernel, by decide +kernel⟩, by decide⟩
theorem m_X6_commonDivisor : rl_MS yX6_commonDivisor cX6_commonDivisor 6 (some .int) 2 := ⟨(g_at 714 (by decide +kernel) rfl), (g_at 59 (by decide +kernel) rfl), (g_at 715 (by decide +kernel) rfl), ⟨by decide +kernel, by decide +kernel, by decide +kernel⟩, by decide⟩
theorem m_X6_image : rl_MV yX6_image cX6_image 1 (some .int) 0 := ⟨(g_at 717 (by decide +kernel) rfl), (g_at 718 (by decide +kernel) rfl), (g_at 59 (by decide +kernel) rfl), (g_at 719 (by decide +kernel) rfl), ⟨by decide +kernel, by decide +kernel, by decide +kernel⟩, by decide⟩
theorem m_X0_copyFrom : rl_MV yX0_copyFrom cX0_copyFrom 2 none 1 := ⟨(g_at 721 (by decide +kernel) rfl), (g_at 722 (by decide +kernel) rfl), (g_at 61 (by decide +kernel) rfl), (g_at 723 (by decide +kernel) rfl), ⟨by decide +kernel, by decide +kernel, by decide +kernel⟩, by decide⟩
theorem m_X6_restore : rl_MV yX6_restore cX6_restore 1 (some .int) 0 := ⟨(g_at 725 (by decide +kernel) rfl), (g_at 726 (by decide +kernel) rfl), (g_at 59 (by decide +kernel) rfl), (g_at 727 (by decide +kernel) rfl), ⟨by decide +kernel, by decide +kernel, by decide +kernel⟩, by decide⟩
theorem m_X6_dipped : rl_MV yX6_dipped cX6_dipped 8 (some .int) 6 := ⟨(g_at 729 (by decide +kernel) rfl), (g_at 730 (by decide +kernel) rfl), (g_at 59 (by decide +kernel) rfl), (g_at 731 (by decide +kernel) rfl), ⟨by decide +kernel, by decide +kernel, by decide +kernel⟩, by decide⟩
theorem m_X3_isSheet : rl_MS yX3_isSheet cX3_isSheet 1 (some .boolean) 1 := ⟨(g_at 733 (by decide +kernel) rfl), (g_at 63 (by decide +kernel) rfl), (g_at 734 (by decide +kernel) rfl), ⟨by decide +kernel, by decide +kernel, by decide +kernel⟩, by decide⟩
theorem m_X3_isLane : rl_MS yX3_isLane cX3_isLane 1 (some .boolean) 1 := ⟨(g_at 736 (by decide +kernel) rfl), (g_at 63 (by decide +kernel) rfl), (g_at 737 (by decide +kernel) rfl), ⟨by decide +kernel, by decide +kernel, by decide +kernel⟩, by decide⟩
theorem m_X3_refusal : rl_MV yX3_refusal cX3_refusal 5 (some .int) 4 := ⟨(g_at 739 (by decide +kernel) rfl), (g_at 740 (by decide +kernel) rfl), (g_at 63 (by decide +kernel) rfl), (g_at 741 (by decide +kernel) rfl), ⟨by decide +kernel, by decide +kernel, by decide +kernel⟩, by decide⟩
theorem m_X3_isHeld : rl_MV yX3_isHeld cX3_isHeld 2 (some .boolean) 1 := ⟨(g_at 743 (by decide +kernel) rfl), (g_at 744 (by decide +kernel) rfl), (g_at 63 (by decide +kernel) rfl), (g_at 745 (by decide +kernel) rfl), ⟨by decide +kernel, by decide +kernel, by decide +kernel⟩, by decide⟩
theorem m_X3_holds : rl_MV yX3_holds cX3_holds 4 (some .boolean) 3 := ⟨(g_at 747 (by decide +kernel) rfl), (g_at 748 (by decide +kernel) rfl), (g_at 63 (by decide +kernel) rfl), (g_at 749 (by decide +kernel) rfl), ⟨by decide +kernel, by decide +kernel, by decide +kernel⟩, by decide⟩
theorem m_X6_kindsDipped : rl_MV yX6_kindsDipped cX6_kindsDipped 7 (some .int) 4 := ⟨(g_at 752 (by decide +kernel) rfl), (g_at 18 (by decide +kernel) rfl), (g_at 59 (by decide +kernel) rfl), (g_at 753 (by decide +kernel) rfl), ⟨by decide +kernel, by decide +kernel, by decide +kernel⟩, by decide⟩
theorem m_X6_draftAgrees : rl_MV yX6_draftAgrees cX6_draftAgrees 6 (some .boolean) 4 := ⟨(g_at 756 (by decide +kernel) rfl), (g_at 19 (by decide +kernel) rfl), (g_at 59 (by decide +kernel) rfl), (g_at 757 (by decide +kernel) rfl), ⟨by decide +kernel, by decide +kernel, by decide +kernel⟩, by decide⟩
theorem m_X3_valueAt : rl_MV yX3_valueAt cX3_valueAt 3 (some .long) 2 := ⟨(g_at 759 (by decide +kernel) rfl), (g_at 760 (by decide +kernel) rfl), (g_at 63 (by decide +kernel) rfl), (g_at 761 (by decide +kernel) rfl), ⟨by decide +kernel, by decide +kernel, by decide +kernel⟩, by decide⟩
theorem m_X6_depthsDipped : rl_MV yX6_depthsDipped cX6_depthsDipped 9 (some .int) 5 := ⟨(g_at 764 (by decide +kernel) rfl), (g_at 20 (by decide +kernel) rfl), (g_at 59 (by decide +kernel) rfl), (g_at 765 (by decide +kernel) rfl), ⟨by decide +kernel, by decide +kernel, by decide +kernel⟩, by decide⟩
theorem m_X6_film : rl_MV yX6_film cX6_film 8 (some .int) 5 := ⟨(g_at 767 (by decide +kernel) rfl), (g_at 768 (by decide +kernel) rfl), (g_at 59 (by decide +kernel) rfl), (g_at 769 (by decide +kernel) rfl), ⟨by decide +kernel, by decide +kernel, by decide +kernel⟩, by decide⟩
theorem m_X3_put : rl_MV yX3_put cX3_put 5 none 3 := ⟨(g_at 771 (by decide +kernel) rfl), (g_at 772 (by decide +kernel) rfl), (g_at 63 (by decide +kernel) rfl), (g_at 773 (by decide +kernel) rfl), ⟨by decide +kernel, by decide +kernel, by decide +kernel⟩, by decide⟩
theorem m_X3_lowestBits : rl_MS yX3_lowestBits cX3_lowestBits 3 (some .long) 2 := ⟨(g_at 775 (by decide +kernel) rfl), (g_at 63 (by decide +kernel) rfl), (g_at 776 (by decide +kernel) rfl), ⟨by decide +kernel, by decide +kernel, by decide +kernel⟩, by decide⟩
theorem m_X6_sheet : rl_MV yX6_sheet cX6_sheet 4 (some .int) 3 := ⟨(g_at 778 (by decide +kernel) rfl), (g_at 779 (by decide +kernel) rfl), (g_at 59 (by decide +kernel) rfl), (g_at 780 (by decide +kernel) rfl), ⟨by decide +kernel, by decide +kernel, by decide +kernel⟩, by decide⟩
theorem m_X3_renew : rl_MV yX3_renew cX3_renew 5 none 3 := ⟨(g_at 782 (by decide +kernel) rfl), (g_at 783 (by decide +kernel) rfl), (g_at 63 (by decide +kernel) rfl), (g_at 784 (by decide +kernel) rfl), ⟨by decide +kernel, by decide +kernel, by decide +kernel⟩, by decide⟩
theorem m_X6_drop : rl_MV yX6_drop cX6_drop 2 (some .int) 1 := ⟨(g_at 786 (by decide +kernel) rfl), (g_at 787 (by decide +kernel) rfl), (g_at 59 (by decide +kernel) rfl), (g_at 788 (by decide +kernel) rfl), ⟨by decide +kernel, by decide +kernel, by decide +kernel⟩, by decide⟩
theorem m_X3_clear : rl_MV yX3_clear cX3_clear 2 (some .int) 1 := ⟨(g_at 791 (by decide +kernel) rfl), (g_at 792 (by decide +kernel) rfl), (g_at 63 (by decide +kernel) rfl), (g_at 793 (by decide +kernel) rfl), ⟨by decide +kernel, by decide +kernel, by decide +kernel⟩, by decide⟩
theorem m_X6_item : rl_MV yX6_item cX6_item 7 (some .int) 4 := ⟨(g_at 795 (by decide +kernel) rfl), (g_at 796 (by decide +kernel) rfl), (g_at 59 (by decide +kernel) rfl), (g_at 797 (by decide +kernel) rfl), ⟨by decide +kernel, by decide +kernel, by decide +kernel⟩, by decide⟩
theorem m_X6_copy : rl_MV yX6_copy cX6_copy 6 (some .int) 5 := ⟨(g_at 799 (by decide +kernel) rfl), (g_at 800 (by decide +kernel) rfl), (g_at 59 (by decide +kernel) rfl), (g_at 801 (by decide +kernel) rfl), ⟨by decide +kernel, by decide +kernel, by decide +kernel⟩, by decide⟩
theorem m_X3_move : rl_MV yX3_move cX3_move 6 none 5 := ⟨(g_at 804 (by decide +kernel) rfl), (g_at 805 (by decide +kernel) rfl), (g_at 63 (by decide +kernel) rfl), (g_at 806 (by decide +kernel) rfl), ⟨by decide +kernel, by decide +kernel, by decide +kernel⟩, by decide⟩
theorem m_X7_init : rl_MI yX7_init cX7_init 2 0 := ⟨(g_at 811 (by decide +kernel) rfl), rfl, (g_at 66 (by decide +kernel) rfl), (g_at 812 (by decide +kernel) rfl), ⟨by decide +kernel, by decide +kernel, by decide +kernel⟩, by decide⟩
theorem m_X7_puddle : rl_MV yX7_puddle cX7_puddle 4 (some .int) 3 := ⟨(g_at 882 (by decide +kernel) rfl), (g_at 883 (by decide +kernel) rfl), (g_at 66 (by decide +kernel) rfl), (g_at 884 (by decide +kernel) rfl), ⟨by decide +kernel, by decide +kernel, by decide +kernel⟩, by decide⟩
theorem m_X7_in : rl_MS yX7_in cX7_in 6 (some .boolean) 3 := ⟨(g_at 887 (by decide +kernel) rfl), (g_at 66 (by decide +kernel) rfl), (g_at 888 (by decide +kernel) rfl), ⟨by decide +kernel, by decide +kernel, by decide +kernel⟩, by decide⟩
theorem m_X7_puddleComes : rl_MV yX7_puddleComes cX7_puddleComes 5 none 3 := ⟨(g_at 893 (by decide +kernel) rfl), (g_at 21 (by decide +kernel) rfl), (g_at 66 (by decide +kernel) rfl), (g_at 894 (by decide +kernel) rfl), ⟨by decide +kernel, by decide +kernel, by decide +kernel⟩, by decide⟩
theorem m_X7_person : rl_MV yX7_person cX7_person 4 (some .int) 3 := ⟨(g_at 896 (by decide +kernel) rfl), (g_at 897 (by decide +kernel) rfl), (g_at 66 (by decide +kernel) rfl), (g_at 898 (by decide +kernel) rfl), ⟨by decide +kernel, by decide +kernel, by decide +kernel⟩, by decide⟩
theorem m_X7_personComes : rl_MV yX7_personComes cX7_personComes 5 none 3 := ⟨(g_at 903 (by decide +kernel) rfl), (g_at 22 (by decide +kernel) rfl), (g_at 66 (by decide +kernel) rfl), (g_at 904 (by decide +kernel) rfl), ⟨by decide +kernel, by decide +kernel, by decide +kernel⟩, by decide⟩
theorem m_X7_tells : rl_MV yX7_tells cX7_tells 4 none 3 := ⟨(g_at 907 (by decide +kernel) rfl), (g_at 23 (by decide +kernel) rfl), (g_at 66 (by decide +kernel) rfl), (g_at 908 (by decide +kernel) rfl), ⟨by decide +kernel, by decide +kernel, by decide +kernel⟩, by decide⟩
theorem m_X7_show : rl_MV yX7_show cX7_show 4 (some .int) 2 := ⟨(g_at 910 (by decide +kernel) rfl), (g_at 911 (by decide +kernel) rfl), (g_at 66 (by decide +kernel) rfl), (g_at 912 (by decide +kernel) rfl), ⟨by decide +kernel, by decide +kernel, by decide +kernel⟩, by decide⟩
theorem m_X7_isPuddle : rl_MV yX7_isPuddle cX7_isPuddle 2 (some .boolean) 1 := ⟨(g_at 915 (by decide +kernel) rfl), (g_at 24 (by decide +kernel) rfl), (g_at 66 (by decide +kernel) rfl), (g_at 916 (by decide +kernel) rfl), ⟨by decide +kernel, by decide +kernel, by decide +kernel⟩, by decide⟩
theorem m_X7_ofPuddle : rl_MV yX7_ofPuddle cX7_ofPuddle 3 (some .int) 2 := ⟨(g_at 919 (by decide +kernel) rfl), (g_at 25 (by decide +kernel) rfl), (g_at 66 (by decide +kernel) rfl), (g_at 920 (by decide +kernel) rfl), ⟨by decide +kernel, by decide +kernel, by decide +kernel⟩, by decide⟩
theorem m_X7_of : rl_MV yX7_of cX7_of 3 (some .int) 2 := ⟨(g_at 922 (by decide +kernel) rfl), (g_at 923 (by decide +kernel) rfl), (g_at 66 (by decide +kernel) rfl), (g_at 924 (by decide +kernel) rfl), ⟨by decide +kernel, by decide +kernel, by decide +kernel⟩, by decide⟩
theorem m_X7_whoClaimed : rl_MV yX7_whoClaimed cX7_whoClaimed 4 (some .int) 1 := ⟨(g_at 927 (by decide +kernel) rfl), (g_at 26 (by decide +kernel) rfl), (g_at 66 (by decide +kernel) rfl), (g_at 928 (by decide +kernel) rfl), ⟨by decide +kernel, by decide +kernel, by decide +kernel⟩, by decide⟩
theorem m_X7_claimed : rl_MV yX7_claimed cX7_claimed 2 (some .int) 1 := ⟨(g_at 931 (by decide +kernel) rfl), (g_at 27 (by decide +kernel) rfl), (g_at 66 (by decide +kernel) rfl), (g_at 932 (by decide +kernel) rfl), ⟨by decide +kernel, by decide +kernel, by decide +kernel⟩, by decide⟩
theorem m_X7_ofPerson : rl_MV yX7_ofPerson cX7_ofPerson 3 (some .int) 2 := ⟨(g_at 935 (by decide +kernel) rfl), (g_at 28 (by decide +kernel) rfl), (g_at 66 (by decide +kernel) rfl), (g_at 936 (by decide +kernel) rfl), ⟨by decide +kernel, by decide +kernel, by decide +kernel⟩, by decide⟩
theorem m_X7_less : rl_MV yX7_less cX7_less 3 (some .int) 1 := ⟨(g_at 939 (by decide +kernel) rfl), (g_at 29 (by decide +kernel) rfl), (g_at 66 (by decide +kernel) rfl), (g_at 940 (by decide +kernel) rfl), ⟨by decide +kernel, by decide +kernel, by decide +kernel⟩, by decide⟩
theorem m_X7_deep : rl_MV yX7_deep cX7_deep 2 (some .int) 1 := ⟨(g_at 943 (by decide +kernel) rfl), (g_at 30 (by decide +kernel) rfl), (g_at 66 (by decide +kernel) rfl), (g_at 944 (by decide +kernel) rfl), ⟨by decide +kernel, by decide +kernel, by decide +kernel⟩, by decide⟩
theorem m_X7_isDry : rl_MV yX7_isDry cX7_isDry 2 (some .boolean) 1 := ⟨(g_at 947 (by decide +kernel) rfl), (g_at 31 (by decide +kernel) rfl), (g_at 66 (by decide +kernel) rfl), (g_at 948 (by decide +kernel) rfl), ⟨by decide +kernel, by decide +kernel, by decide +kernel⟩, by decide⟩
theorem m_X7_at : rl_MV yX7_at cX7_at 3 (some .int) 2 := ⟨(g_at 950 (by decide +kernel) rfl), (g_at 951 (by decide +kernel) rfl), (g_at 66 (by decide +kernel) rfl), (g_at 952 (by decide +kernel) rfl), ⟨by decide +kernel, by decide +kernel, by decide +kernel⟩, by decide⟩
theorem m_X7_isPerson : rl_MV yX7_isPerson cX7_isPerson 2 (some .boolean) 1 := ⟨(g_at 955 (by decide +kernel) rfl), (g_at 32 (by decide +kernel) rfl), (g_at 66 (by decide +kernel) rfl), (g_at 956 (by decide +kernel) rfl), ⟨by decide +kernel, by decide +kernel, by decide +kernel⟩, by decide⟩
theorem m_X7_fitsFor : rl_MV yX7_fitsFor cX7_fitsFor 4 (some .int) 1 := ⟨(g_at 959 (by decide +kernel) rfl), (g_at 33 (by decide +kernel) rfl), (g_at 66 (by decide +kernel) rfl), (g_at 960 (by decide +kernel) rfl), ⟨by decide +kernel, by decide +kernel, by decide +kernel⟩, by decide⟩
theorem m_X7_fits : rl_MV yX7_fits cX7_fits 3 (some .boolean) 2 := ⟨(g_at 963 (by decide +kernel) rfl), (g_at 34 (by decide +kernel) rfl), (g_at 66 (by decide +kernel) rfl), (g_at 964 (by decide +kernel) rfl), ⟨by decide +kernel, by decide +kernel, by decide +kernel⟩, by decide⟩
theorem m_X7_count : rl_MV yX7_count cX7_count 2 (some .int) 1 := ⟨(g_at 966 (by decide +kernel) rfl), (g_at 967 (by decide +kernel) rfl), (g_at 66 (by decide +kernel) rfl), (g_at 968 (by decide +kernel) rfl), ⟨by decide +kernel, by decide +kernel, by decide +kernel⟩, by decide⟩
theorem m_X7_deepAll : rl_MV yX7_deepAll cX7_deepAll 3 (some .int) 0 := ⟨(g_at 971 (by decide +kernel) rfl), (g_at 35 (by decide +kernel) rfl), (g_at 66 (by decide +kernel) rfl), (g_at 972 (by decide +kernel) rfl), ⟨by decide +kernel, by decide +kernel, by decide +kernel⟩, by decide⟩
theorem m_X7_dryOnes : rl_MV yX7_dryOnes cX7_dryOnes 3 (some .int) 0 := ⟨(g_at 975 (by decide +kernel) rfl), (g_at 36 (by decide +kernel) rfl), (g_at 66 (by decide +kernel) rfl), (g_at 976 (by decide +kernel) rfl), ⟨by decide +kernel, by decide +kernel, by decide +kernel⟩, by decide⟩
theorem m_X7_servedNow : rl_MV yX7_servedNow cX7_servedNow 3 (some .int) 0 := ⟨(g_at 979 (by decide +kernel) rfl), (g_at 37 (by decide +kernel) rfl), (g_at 66 (by decide +kernel) rfl), (g_at 980 (by decide +kernel) rfl), ⟨by decide +kernel, by decide +kernel, by decide +kernel⟩, by decide⟩
theorem m_X7_claimedOnes : rl_MV yX7_claimedOnes cX7_claimedOnes 3 (some .int) 0 := ⟨(g_at 983 (by decide +kernel) rfl), (g_at 38 (by decide +kernel) rfl), (g_at 66 (by decide +kernel) rfl), (g_at 984 (by decide +kernel) rfl), ⟨by decide +kernel, by decide +kernel, by decide +kernel⟩, by decide⟩
theorem m_X7_type : rl_MV yX7_type cX7_type 2 (some .int) 1 := ⟨(g_at 986 (by decide +kernel) rfl), (g_at 987 (by decide +kernel) rfl), (g_at 66 (by decide +kernel) rfl), (g_at 988 (by decide +kernel) rfl), ⟨by decide +kernel, by decide +kernel, by decide +kernel⟩, by decide⟩
theorem m_X7_read : rl_MV yX7_read cX7_read 4 (some .int) 0 := ⟨(g_at 992 (by decide +kernel) rfl), (g_at 993 (by decide +kernel) rfl), (g_at 66 (by decide +kernel) rfl), (g_at 994 (by decide +kernel) rfl), ⟨by decide +kernel, by decide +kernel, by decide +kernel⟩, by decide⟩
theorem m_X7_puddlesRead : rl_MV yX7_puddlesRead cX7_puddlesRead 6 (some .int) 0 := ⟨(g_at 997 (by decide +kernel) rfl), (g_at 39 (by decide +kernel) rfl), (g_at 66 (by decide +kernel) rfl), (g_at 998 (by decide +kernel) rfl), ⟨by decide +kernel, by decide +kernel, by decide +kernel⟩, by decide⟩
theorem m_X7_here : rl_MV yX7_here cX7_here 1 (some .int) 0 := ⟨(g_at 1001 (by decide +kernel) rfl), (g_at 40 (by decide +kernel) rfl), (g_at 66 (by decide +kernel) rfl), (g_at 1002 (by decide +kernel) rfl), ⟨by decide +kernel, by decide +kernel, by decide +kernel⟩, by decide⟩
theorem m_X7_must : rl_MV yX7_must cX7_must 2 none 1 := ⟨(g_at 1005 (by decide +kernel) rfl), (g_at 41 (by decide +kernel) rfl), (g_at 66 (by decide +kernel) rfl), (g_at 1006 (by decide +kernel) rfl), ⟨by decide +kernel, by decide +kernel, by decide +kernel⟩, by decide⟩
theorem m_X7_digit : rl_MV yX7_digit cX7_digit 3 (some .int) 1 := ⟨(g_at 1009 (by decide +kernel) rfl), (g_at 42 (by decide +kernel) rfl), (g_at 66 (by decide +kernel) rfl), (g_at 1010 (by decide +kernel) rfl), ⟨by decide +kernel, by decide +kernel, by decide +kernel⟩, by decide⟩
theorem m_X7_number : rl_MV yX7_number cX7_number 6 (some .int) 2 := ⟨(g_at 1013 (by decide +kernel) rfl), (g_at 43 (by decide +kernel) rfl), (g_at 66 (by decide +kernel) rfl), (g_at 1014 (by decide +kernel) rfl), ⟨by decide +kernel, by decide +kernel, by decide +kernel⟩, by decide⟩
theorem m_X7_peopleRead : rl_MV yX7_peopleRead cX7_peopleRead 5 (some .int) 0 := ⟨(g_at 1019 (by decide +kernel) rfl), (g_at 44 (by decide +kernel) rfl), (g_at 66 (by decide +kernel) rfl), (g_at 1020 (by decide +kernel) rfl), ⟨by decide +kernel, by decide +kernel, by decide +kernel⟩, by decide⟩
theorem m_X7_numberBehind : rl_MV yX7_numberBehind cX7_numberBehind 5 (some .int) 4 := ⟨(g_at 1023 (by decide +kernel) rfl), (g_at 45 (by decide +kernel) rfl), (g_at 66 (by decide +kernel) rfl), (g_at 1024 (by decide +kernel) rfl), ⟨by decide +kernel, by decide +kernel, by decide +kernel⟩, by decide⟩
theorem m_X7_hours : rl_MV yX7_hours cX7_hours 3 (some .int) 1 := ⟨(g_at 1026 (by decide +kernel) rfl), (g_at 1027 (by decide +kernel) rfl), (g_at 66 (by decide +kernel) rfl), (g_at 1028 (by decide +kernel) rfl), ⟨by decide +kernel, by decide +kernel, by decide +kernel⟩, by decide⟩
theorem m_X7_notes : rl_MV yX7_notes cX7_notes 3 none 0 := ⟨(g_at 1032 (by decide +kernel) rfl), (g_at 46 (by decide +kernel) rfl), (g_at 66 (by decide +kernel) rfl), (g_at 1033 (by decide +kernel) rfl), ⟨by decide +kernel, by decide +kernel, by decide +kernel⟩, by decide⟩
theorem m_X7_goesBy : rl_MV yX7_goesBy cX7_goesBy 2 none 0 := ⟨(g_at 1036 (by decide +kernel) rfl), (g_at 47 (by decide +kernel) rfl), (g_at 66 (by decide +kernel) rfl), (g_at 1037 (by decide +kernel) rfl), ⟨by decide +kernel, by decide +kernel, by decide +kernel⟩, by decide⟩
theorem m_X7_looks : rl_MV yX7_looks cX7_looks 4 none 1 := ⟨(g_at 1040 (by decide +kernel) rfl), (g_at 48 (by decide +kernel) rfl), (g_at 66 (by decide +kernel) rfl), (g_at 1041 (by decide +kernel) rfl), ⟨by decide +kernel, by decide +kernel, by decide +kernel⟩, by decide⟩
theorem m_X7_deeps : rl_MV yX7_deeps cX7_deeps 3 none 2 := ⟨(g_at 1044 (by decide +kernel) rfl), (g_at 49 (by decide +kernel) rfl), (g_at 66 (by decide +kernel) rfl), (g_at 1045 (by decide +kernel) rfl), ⟨by decide +kernel, by decide +kernel, by decide +kernel⟩, by decide⟩
theorem m_X7_rain : rl_MV yX7_rain cX7_rain 2 (some .int) 1 := ⟨(g_at 1047 (by decide +kernel) rfl), (g_at 1048 (by decide +kernel) rfl), (g_at 66 (by decide +kernel) rfl), (g_at 1049 (by decide +kernel) rfl), ⟨by decide +kernel, by decide +kernel, by decide +kernel⟩, by decide⟩
theorem m_X7_rains : rl_MV yX7_rains cX7_rains 3 none 1 := ⟨(g_at 1052 (by decide +kernel) rfl), (g_at 50 (by decide +kernel) rfl), (g_at 66 (by decide +kernel) rfl), (g_at 1053 (by decide +kernel) rfl), ⟨by decide +kernel, by decide +kernel, by decide +kernel⟩, by decide⟩
theorem m_X7_drive : rl_MV yX7_drive cX7_drive 2 (some .int) 1 := ⟨(g_at 1055 (by decide +kernel) rfl), (g_at 1056 (by decide +kernel) rfl), (g_at 66 (by decide +kernel) rfl), (g_at 1057 (by decide +kernel) rfl), ⟨by decide +kernel, by decide +kernel, by decide +kernel⟩, by decide⟩
theorem m_X7_send : rl_MV yX7_send cX7_send 3 (some .int) 1 := ⟨(g_at 1059 (by decide +kernel) rfl), (g_at 1060 (by decide +kernel) rfl), (g_at 66 (by decide +kernel) rfl), (g_at 1061 (by decide +kernel) rfl), ⟨by decide +kernel, by decide +kernel, by decide +kernel⟩, by decide⟩
theorem m_X7_later : rl_MV yX7_later cX7_later 4 (some .int) 2 := ⟨(g_at 1063 (by decide +kernel) rfl), (g_at 1064 (by decide +kernel) rfl), (g_at 66 (by decide +kernel) rfl), (g_at 1065 (by decide +kernel) rfl), ⟨by decide +kernel, by decide +kernel, by decide +kernel⟩, by decide⟩
theorem m_X7_drift : rl_MV yX7_drift cX7_drift 4 (some .int) 1 := ⟨(g_at 1067 (by decide +kernel) rfl), (g_at 1068 (by decide +kernel) rfl), (g_at 66 (by decide +kernel) rfl), (g_at 1069 (by decide +kernel) rfl), ⟨by decide +kernel, by decide +kernel, by decide +kernel⟩, by decide⟩
theorem m_X7_undo : rl_MV yX7_undo cX7_undo 3 (some .int) 0 := ⟨(g_at 1075 (by decide +kernel) rfl), (g_at 1076 (by decide +kernel) rfl), (g_at 66 (by decide +kernel) rfl), (g_at 1077 (by decide +kernel) rfl), ⟨by decide +kernel, by decide +kernel, by decide +kernel⟩, by decide⟩
theorem m_X7_seed : rl_MV yX7_seed cX7_seed 3 (some .int) 1 := ⟨(g_at 1079 (by decide +kernel) rfl), (g_at 1080 (by decide +kernel) rfl), (g_at 66 (by decide +kernel) rfl), (g_at 1081 (by decide +kernel) rfl), ⟨by decide +kernel, by decide +kernel, by decide +kernel⟩, by decide⟩
theorem m_X7_ahead : rl_MV yX7_ahead cX7_ahead 4 (some .int) 2 := ⟨(g_at 1083 (by decide +kernel) rfl), (g_at 1084 (by decide +kernel) rfl), (g_at 66 (by decide +kernel) rfl), (g_at 1085 (by decide +kernel) rfl), ⟨by decide +kernel, by decide +kernel, by decide +kernel⟩, by decide⟩
theorem m_X7_asides : rl_MV yX7_asides cX7_asides 2 none 0 := ⟨(g_at 1088 (by decide +kernel) rfl), (g_at 51 (by decide +kernel) rfl), (g_at 66 (by decide +kernel) rfl), (g_at 1089 (by decide +kernel) rfl), ⟨by decide +kernel, by decide +kernel, by decide +kernel⟩, by decide⟩
theorem m_X7_goesOn : rl_MV yX7_goesOn cX7_goesOn 3 none 1 := ⟨(g_at 1092 (by decide +kernel) rfl), (g_at 52 (by decide +kernel) rfl), (g_at 66 (by decide +kernel) rfl), (g_at 1093 (by decide +kernel) rfl), ⟨by decide +kernel, by decide +kernel, by decide +kernel⟩, by decide⟩
theorem m_X7_backs : rl_MV yX7_backs cX7_backs 2 none 0 := ⟨(g_at 1096 (by decide +kernel) rfl), (g_at 53 (by decide +kernel) rfl), (g_at 66 (by decide +kernel) rfl), (g_at 1097 (by decide +kernel) rfl), ⟨by decide +kernel, by decide +kernel, by decide +kernel⟩, by decide⟩
theorem m_X7_claims : rl_MV yX7_claims cX7_claims 4 (some .int) 2 := ⟨(g_at 1099 (by decide +kernel) rfl), (g_at 1100 (by decide +kernel) rfl), (g_at 66 (by decide +kernel) rfl), (g_at 1101 (by decide +kernel) rfl), ⟨by decide +kernel, by decide +kernel, by decide +kernel⟩, by decide⟩
theorem m_X7_then : rl_MV yX7_then cX7_then 3 (some .int) 1 := ⟨(g_at 1103 (by decide +kernel) rfl), (g_at 1104 (by decide +kernel) rfl), (g_at 66 (by decide +kernel) rfl), (g_at 1105 (by decide +kernel) rfl), ⟨by decide +kernel, by decide +kernel, by decide +kernel⟩, by decide⟩
theorem m_X7_served : rl_MV yX7_served cX7_served 3 (some .int) 1 := ⟨(g_at 1107 (by decide +kernel) rfl), (g_at 1108 (by decide +kernel) rfl), (g_at 66 (by decide +kernel) rfl), (g_at 1109 (by decide +kernel) rfl), ⟨by decide +kernel, by decide +kernel, by decide +kernel⟩, by decide⟩
theorem m_X7_dries : rl_MV yX7_dries cX7_dries 3 (some .int) 1 := ⟨(g_at 1111 (by decide +kernel) rfl), (g_at 1112 (by decide +kernel) rfl), (g_at 66 (by decide +kernel) rfl), (g_at 1113 (by decide +kernel) rfl), ⟨by decide +kernel, by decide +kernel, by decide +kernel⟩, by decide⟩
theorem m_X7_match : rl_MV yX7_match cX7_match 8 (some .int) 0 := ⟨(g_at 1115 (by decide +kernel) rfl), (g_at 1116 (by decide +kernel) rfl), (g_at 66 (by decide +kernel) rfl), (g_at 1117 (by decide +kernel) rfl), ⟨by decide +kernel, by decide +kernel, by decide +kernel⟩, by decide⟩
theorem m_X7_latest : rl_MV yX7_latest cX7_latest 4 (some .int) 1 := ⟨(g_at 1119 (by decide +kernel) rfl), (g_at 1120 (by decide +kernel) rfl), (g_at 66 (by decide +kernel) rfl), (g_at 1121 (by decide +kernel) rfl), ⟨by decide +kernel, by decide +kernel, by decide +kernel⟩, by decide⟩
theorem m_X7_order : rl_MV yX7_order cX7_order 9 (some .int) 2 := ⟨(g_at 1123 (by decide +kernel) rfl), (g_at 1124 (by decide +kernel) rfl), (g_at 66 (by decide +kernel) rfl), (g_at 1125 (by decide +kernel) rfl), ⟨by decide +kernel, by decide +kernel, by decide +kernel⟩, by decide⟩
theorem m_X7_isOrder : rl_MV yX7_isOrder cX7_isOrder 6 (some .boolean) 2 := ⟨(g_at 1128 (by decide +kernel) rfl), (g_at 54 (by decide +kernel) rfl), (g_at 66 (by decide +kernel) rfl), (g_at 1129 (by decide +kernel) rfl), ⟨by decide +kernel, by decide +kernel, by decide +kernel⟩, by decide⟩
theorem m_X7_comesBy : rl_MV yX7_comesBy cX7_comesBy 3 none 1 := ⟨(g_at 1132 (by decide +kernel) rfl), (g_at 55 (by decide +kernel) rfl), (g_at 66 (by decide +kernel) rfl), (g_at 1133 (by decide +kernel) rfl), ⟨by decide +kernel, by decide +kernel, by decide +kernel⟩, by decide⟩
theorem m_X7_many : rl_MS yX7_many cX7_many 3 (some .int) 1 := ⟨(g_at 1135 (by decide +kernel) rfl), (g_at 66 (by decide +kernel) rfl), (g_at 1136 (by decide +kernel) rfl), ⟨by decide +kernel, by decide +kernel, by decide +kernel⟩, by decide⟩
theorem m_X7_wet : rl_MV yX7_wet cX7_wet 4 (some .int) 1 := ⟨(g_at 1138 (by decide +kernel) rfl), (g_at 1139 (by decide +kernel) rfl), (g_at 66 (by decide +kernel) rfl), (g_at 1140 (by decide +kernel) rfl), ⟨by decide +kernel, by decide +kernel, by decide +kernel⟩, by decide⟩
theorem m_X7_matters : rl_MV yX7_matters cX7_matters 7 (some .int) 2 := ⟨(g_at 1142 (by decide +kernel) rfl), (g_at 1143 (by decide +kernel) rfl), (g_at 66 (by decide +kernel) rfl), (g_at 1144 (by decide +kernel) rfl), ⟨by decide +kernel, by decide +kernel, by decide +kernel⟩, by decide⟩
theorem m_X7_sight : rl_MV yX7_sight cX7_sight 8 (some .int) 3 := ⟨(g_at 1146 (by decide +kernel) rfl), (g_at 1147 (by decide +kernel) rfl), (g_at 66 (by decide +kernel) rfl), (g_at 1148 (by decide +kernel) rfl), ⟨by decide +kernel, by decide +kernel, by decide +kernel⟩, by decide⟩
theorem m_X7_carts : rl_MV yX7_carts cX7_carts 11 (some .int) 3 := ⟨(g_at 1150 (by decide +kernel) rfl), (g_at 1151 (by decide +kernel) rfl), (g_at 66 (by decide +kernel) rfl), (g_at 1152 (by decide +kernel) rfl), ⟨by decide +kernel, by decide +kernel, by decide +kernel⟩, by decide⟩
theorem m_X7_image : rl_MV yX7_image cX7_image 2 (some .int) 0 := ⟨(g_at 1155 (by decide +kernel) rfl), (g_at 1156 (by decide +kernel) rfl), (g_at 66 (by decide +kernel) rfl), (g_at 1157 (by decide +kernel) rfl), ⟨by decide +kernel, by decide +kernel, by decide +kernel⟩, by decide⟩
theorem m_X7_restore : rl_MV yX7_restore cX7_restore 2 (some .int) 0 := ⟨(g_at 1159 (by decide +kernel) rfl), (g_at 1160 (by decide +kernel) rfl), (g_at 66 (by decide +kernel) rfl), (g_at 1161 (by decide +kernel) rfl), ⟨by decide +kernel, by decide +kernel, by decide +kernel⟩, by decide⟩
theorem m_X7_dipped : rl_MV yX7_dipped cX7_dipped 14 (some .int) 6 := ⟨(g_at 1163 (by decide +kernel) rfl), (g_at 1164 (by decide +kernel) rfl), (g_at 66 (by decide +kernel) rfl), (g_at 1165 (by decide +kernel) rfl), ⟨by decide +kernel, by decide +kernel, by decide +kernel⟩, by decide⟩
theorem m_X7_isSheet : rl_MS yX7_isSheet cX7_isSheet 1 (some .boolean) 1 := ⟨(g_at 1167 (by decide +kernel) rfl), (g_at 66 (by decide +kernel) rfl), (g_at 1168 (by decide +kernel) rfl), ⟨by decide +kernel, by decide +kernel, by decide +kernel⟩, by decide⟩
theorem m_X7_isLane : rl_MS yX7_isLane cX7_isLane 1 (some .boolean) 1 := ⟨(g_at 1171 (by decide +kernel) rfl), (g_at 66 (by decide +kernel) rfl), (g_at 1172 (by decide +kernel) rfl), ⟨by decide +kernel, by decide +kernel, by decide +kernel⟩, by decide⟩
theorem m_X7_why : rl_MV yX7_why cX7_why 5 (some .int) 4 := ⟨(g_at 1177 (by decide +kernel) rfl), (g_at 56 (by decide +kernel) rfl), (g_at 66 (by decide +kernel) rfl), (g_at 1178 (by decide +kernel) rfl), ⟨by decide +kernel, by decide +kernel, by decide +kernel⟩, by decide⟩
theorem m_X7_isSo : rl_MV yX7_isSo cX7_isSo 6 (some .boolean) 3 := ⟨(g_at 1181 (by decide +kernel) rfl), (g_at 57 (by decide +kernel) rfl), (g_at 66 (by decide +kernel) rfl), (g_at 1182 (by decide +kernel) rfl), ⟨by decide +kernel, by decide +kernel, by decide +kernel⟩, by decide⟩
theorem m_X7_film : rl_MV yX7_film cX7_film 8 (some .int) 5 := ⟨(g_at 1184 (by decide +kernel) rfl), (g_at 1185 (by decide +kernel) rfl), (g_at 66 (by decide +kernel) rfl), (g_at 1186 (by decide +kernel) rfl), ⟨by decide +kernel, by decide +kernel, by decide +kernel⟩, by decide⟩
theorem m_X7_sheet : rl_MV yX7_sheet cX7_sheet 5 (some .int) 3 := ⟨(g_at 1189 (by decide +kernel) rfl), (g_at 1190 (by decide +kernel) rfl), (g_at 66 (by decide +kernel) rfl), (g_at 1191 (by decide +kernel) rfl), ⟨by decide +kernel, by decide +kernel, by decide +kernel⟩, by decide⟩
theorem m_X7_drop : rl_MV yX7_drop cX7_drop 2 (some .int) 1 := ⟨(g_at 1193 (by decide +kernel) rfl), (g_at 1194 (by decide +kernel) rfl), (g_at 66 (by decide +kernel) rfl), (g_at 1195 (by decide +kernel) rfl), ⟨by decide +kernel, by decide +kernel, by decide +kernel⟩, by decide⟩
theorem m_X7_item : rl_MV yX7_item cX7_item 7 (some .int) 4 := ⟨(g_at 1197 (by decide +kernel) rfl), (g_at 1198 (by decide +kernel) rfl), (g_at 66 (by decide +kernel) rfl), (g_at 1199 (by decide +kernel) rfl), ⟨by decide +kernel, by decide +kernel, by decide +kernel⟩, by decide⟩
theorem m_X7_copy : rl_MV yX7_copy cX7_copy 8 (some .int) 5 := ⟨(g_at 1201 (by decide +kernel) rfl), (g_at 1202 (by decide +kernel) rfl), (g_at 66 (by decide +kernel) rfl), (g_at 1203 (by decide +kernel) rfl), ⟨by decide +kernel, by decide +kernel, by decide +kernel⟩, by decide⟩
theorem lk_L_9 : Cond.methodLink RL 9 yX6_init ∈ g_tbl := (g_at 77 (by decide +kernel) rfl)
theorem lk_X6_1 : Cond.methodLink RX6 1 Lib.objectInit ∈ g_tbl := (g_at 80 (by decide +kernel) rfl)
theorem lk_X4_3 : Cond.methodLink RX4 3 Lib.objectInit ∈ g_tbl := (g_at 88 (by decide +kernel) rfl)
theorem gf_X4_11 : rl_GF RX4 11 4 0 true (.array .int) := ⟨RX4, TX4, 11, tyX4, rfl, ginX4, tyX4_ok, nmX4, by decide, (g_at 89 (by decide +kernel) rfl), rfl, rfl, fun _ => rfl⟩
theorem gf_X4_11_r : rl_GR RX4 11 4 0 := ⟨RX4, TX4, 11, rfl, ginX4, by decide, (g_at 89 (by decide +kernel) rfl)⟩
theorem gf_X6_92 : rl_GR RX6 92 4 0 := ⟨RX4, TX4, 11, rfl, ginX4, by decide, (g_at 90 (by decide +kernel) rfl)⟩
theorem gf_X4_15 : rl_GF RX4 15 4 1 true (.array .int) := ⟨RX4, TX4, 11, tyX4, rfl, ginX4, tyX4_ok, nmX4, by decide, (g_at 91 (by decide +kernel) rfl), rfl, rfl, fun _ => rfl⟩
theorem gf_X4_15_r : rl_GR RX4 15 4 1 := ⟨RX4, TX4, 11, rfl, ginX4, by decide, (g_at 91 (by decide +kernel) rfl)⟩
theorem gf_X6_88 : rl_GR RX6 88 4 1 := ⟨RX4, TX4, 11, rfl, ginX4, by decide, (g_at 92 (by decide +kernel) rfl)⟩
theorem gf_X4_18 : rl_GF RX4 18 4 2 true (.array .int) := ⟨RX4, TX4, 11, tyX4, rfl, ginX4, tyX4_ok, nmX4, by decide, (g_at 93 (by decide +kernel) rfl), rfl, rfl, fun _ => rfl⟩
theorem gf_X4_18_r : rl_GR RX4 18 4 2 := ⟨RX4, TX4, 11, rfl, ginX4, by decide, (g_at 93 (by decide +kernel) rfl)⟩
theorem gf_X0_22 : rl_GR RX0 22 4 2 := ⟨RX4, TX4, 11, rfl, ginX4, by decide, (g_at 94 (by decide +kernel) rfl)⟩
theorem gf_X2_46 : rl_GR RX2 46 4 2 := ⟨RX4, TX4, 11, rfl, ginX4, by decide, (g_at 95 (by decide +kernel) rfl)⟩
theorem gf_X6_95 : rl_GR RX6 95 4 2 := ⟨RX4, TX4, 11, rfl, ginX4, by decide, (g_at 96 (by decide +kernel) rfl)⟩
theorem gf_X4_21 : rl_GF RX4 21 4 3 true (.array .int) := ⟨RX4, TX4, 11, tyX4, rfl, ginX4, tyX4_ok, nmX4, by decide, (g_at 97 (by decide +kernel) rfl), rfl, rfl, fun _ => rfl⟩
theorem gf_X4_21_r : rl_GR RX4 21 4 3 := ⟨RX4, TX4, 11, rfl, ginX4, by decide, (g_at 97 (by decide +kernel) rfl)⟩
theorem gf_X6_113 : rl_GR RX6 113 4 3 := ⟨RX4, TX4, 11, rfl, ginX4, by decide, (g_at 98 (by decide +kernel) rfl)⟩
theorem gf_X4_24 : rl_GF RX4 24 4 4 true (.array .int) := ⟨RX4, TX4, 11, tyX4, rfl, ginX4, tyX4_ok, nmX4, by decide, (g_at 99 (by decide +kernel) rfl), rfl, rfl, fun _ => rfl⟩
theorem gf_X4_24_r : rl_GR RX4 24 4 4 := ⟨RX4, TX4, 11, rfl, ginX4, by decide, (g_at 99 (by decide +kernel) rfl)⟩
theorem gf_X0_34 : rl_GR RX0 34 4 4 := ⟨RX4, TX4, 11, rfl, ginX4, by decide, (g_at 100 (by decide +kernel) rfl)⟩
theorem gf_X6_116 : rl_GR RX6 116 4 4 := ⟨RX4, TX4, 11, rfl, ginX4, by decide, (g_at 101 (by decide +kernel) rfl)⟩
theorem gf_X4_27 : rl_GF RX4 27 4 5 true (.array .int) := ⟨RX4, TX4, 11, tyX4, rfl, ginX4, tyX4_ok, nmX4, by decide, (g_at 102 (by decide +kernel) rfl), rfl, rfl, fun _ => rfl⟩
theorem gf_X4_27_r : rl_GR RX4 27 4 5 := ⟨RX4, TX4, 11, rfl, ginX4, by decide, (g_at 102 (by decide +kernel) rfl)⟩
theorem gf_X6_119 : rl_GR RX6 119 4 5 := ⟨RX4, TX4, 11, rfl, ginX4, by decide, (g_at 103 (by decide +kernel) rfl)⟩
theorem gf_X4_30 : rl_GF RX4 30 4 6 true (.array .int) := ⟨RX4, TX4, 11, tyX4, rfl, ginX4, tyX4_ok, nmX4, by decide, (g_at 104 (by decide +kernel) rfl), rfl, rfl, fun _ => rfl⟩
theorem gf_X4_30_r : rl_GR RX4 30 4 6 := ⟨RX4, TX4, 11, rfl, ginX4, by decide, (g_at 104 (by decide +kernel) rfl)⟩
theorem gf_X0_31 : rl_GR RX0 31 4 6 := ⟨RX4, TX4, 11, rfl, ginX4, by decide, (g_at 105 (by decide +kernel) rfl)⟩
theorem gf_X6_122 : rl_GR RX6 122 4 6 := ⟨RX4, TX4, 11, rfl, ginX4, by decide, (g_at 106 (by decide +kernel) rfl)⟩
theorem gf_X4_33 : rl_GF RX4 33 4 7 false (.int) := ⟨RX4, TX4, 11, tyX4, rfl, ginX4, tyX4_ok, nmX4, by decide, (g_at 107 (by decide +kernel) rfl), rfl, rfl, fun h => by cases h⟩
theorem gf_X4_33_r : rl_GR RX4 33 4 7 := ⟨RX4, TX4, 11, rfl, ginX4, by decide, (g_at 107 (by decide +kernel) rfl)⟩
theorem gf_X6_144 : rl_GF RX6 144 4 7 false (.int) := ⟨RX4, TX4, 11, tyX4, rfl, ginX4, tyX4_ok, nmX4, by decide, (g_at 108 (by decide +kernel) rfl), rfl, rfl, fun h => by cases h⟩
theorem gf_X6_144_r : rl_GR RX6 144 4 7 := ⟨RX4, TX4, 11, rfl, ginX4, by decide, (g_at 108 (by decide +kernel) rfl)⟩
theorem gf_X4_37 : rl_GF RX4 37 4 8 false (.int) := ⟨RX4, TX4, 11, tyX4, rfl, ginX4, tyX4_ok, nmX4, by decide, (g_at 109 (by decide +kernel) rfl), rfl, rfl, fun h => by cases h⟩
theorem gf_X4_37_r : rl_GR RX4 37 4 8 := ⟨RX4, TX4, 11, rfl, ginX4, by decide, (g_at 109 (by decide +kernel) rfl)⟩
theorem gf_X2_37 : rl_GF RX2 37 4 8 false (.int) := ⟨RX4, TX4, 11, tyX4, rfl, ginX4, tyX4_ok, nmX4, by decide, (g_at 110 (by decide +kernel) rfl), rfl, rfl, fun h => by cases h⟩
theorem gf_X2_37_r : rl_GR RX2 37 4 8 := ⟨RX4, TX4, 11, rfl, ginX4, by decide, (g_at 110 (by decide +kernel) rfl)⟩
theorem gf_X1_24 : rl_GF RX1 24 4 8 false (.int) := ⟨RX4, TX4, 11, tyX4, rfl, ginX4, tyX4_ok, nmX4, by decide, (g_at 111 (by decide +kernel) rfl), rfl, rfl, fun h => by cases h⟩
theorem gf_X1_24_r : rl_GR RX1 24 4 8 := ⟨RX4, TX4, 11, rfl, ginX4, by decide, (g_at 111 (by decide +kernel) rfl)⟩
theorem gf_X6_147 : rl_GF RX6 147 4 8 false (.int) := ⟨RX4, TX4, 11, tyX4, rfl, ginX4, tyX4_ok, nmX4, by decide, (g_at 112 (by decide +kernel) rfl), rfl, rfl, fun h => by cases h⟩
theorem gf_X6_147_r : rl_GR RX6 147 4 8 := ⟨RX4, TX4, 11, rfl, ginX4, by decide, (g_at 112 (by decide +kernel) rfl)⟩
theorem gf_X4_40 : rl_GF RX4 40 4 9 false (.int) := ⟨RX4, TX4, 11, tyX4, rfl, ginX4, tyX4_ok, nmX4, by decide, (g_at 113 (by decide +kernel) rfl), rfl, rfl, fun h => by cases h⟩
theorem gf_X4_40_r : rl_GR RX4 40 4 9 := ⟨RX4, TX4, 11, rfl, ginX4, by decide, (g_at 113 (by decide +kernel) rfl)⟩
theorem gf_X0_37 : rl_GF RX0 37 4 9 false (.int) := ⟨RX4, TX4, 11, tyX4, rfl, ginX4, tyX4_ok, nmX4, by decide, (g_at 114 (by decide +kernel) rfl), rfl, rfl, fun h => by cases h⟩
theorem gf_X0_37_r : rl_GR RX0 37 4 9 := ⟨RX4, TX4, 11, rfl, ginX4, by decide, (g_at 114 (by decide +kernel) rfl)⟩
theorem gf_X6_150 : rl_GF RX6 150 4 9 false (.int) := ⟨RX4, TX4, 11, tyX4, rfl, ginX4, tyX4_ok, nmX4, by decide, (g_at 115 (by decide +kernel) rfl), rfl, rfl, fun h => by cases h⟩
theorem gf_X6_150_r : rl_GR RX6 150 4 9 := ⟨RX4, TX4, 11, rfl, ginX4, by decide, (g_at 115 (by decide +kernel) rfl)⟩
theorem gf_X4_43 : rl_GF RX4 43 4 10 false (.int) := ⟨RX4, TX4, 11, tyX4, rfl, ginX4, tyX4_ok, nmX4, by decide, (g_at 116 (by decide +kernel) rfl), rfl, rfl, fun h => by cases h⟩
theorem gf_X4_43_r : rl_GR RX4 43 4 10 := ⟨RX4, TX4, 11, rfl, ginX4, by decide, (g_at 116 (by decide +kernel) rfl)⟩
theorem gf_X0_40 : rl_GF RX0 40 4 10 false (.int) := ⟨RX4, TX4, 11, tyX4, rfl, ginX4, tyX4_ok, nmX4, by decide, (g_at 117 (by decide +kernel) rfl), rfl, rfl, fun h => by cases h⟩
theorem gf_X0_40_r : rl_GR RX0 40 4 10 := ⟨RX4, TX4, 11, rfl, ginX4, by decide, (g_at 117 (by decide +kernel) rfl)⟩
theorem gf_X6_136 : rl_GF RX6 136 4 10 false (.int) := ⟨RX4, TX4, 11, tyX4, rfl, ginX4, tyX4_ok, nmX4, by decide, (g_at 118 (by decide +kernel) rfl), rfl, rfl, fun h => by cases h⟩
theorem gf_X6_136_r : rl_GR RX6 136 4 10 := ⟨RX4, TX4, 11, rfl, ginX4, by decide, (g_at 118 (by decide +kernel) rfl)⟩
theorem lk_X0_5 : Cond.methodLink RX0 5 Lib.objectInit ∈ g_tbl := (g_at 148 (by decide +kernel) rfl)
theorem gf_X0_11 : rl_GF RX0 11 0 0 true (.array .int) := ⟨RX0, TX0, 3, tyX0, rfl, ginX0, tyX0_ok, nmX0, by decide, (g_at 149 (by decide +kernel) rfl), rfl, rfl, fun _ => rfl⟩
theorem gf_X0_11_r : rl_GR RX0 11 0 0 := ⟨RX0, TX0, 3, rfl, ginX0, by decide, (g_at 149 (by decide +kernel) rfl)⟩
theorem gf_X0_15 : rl_GF RX0 15 0 1 false (.int) := ⟨RX0, TX0, 3, tyX0, rfl, ginX0, tyX0_ok, nmX0, by decide, (g_at 150 (by decide +kernel) rfl), rfl, rfl, fun h => by cases h⟩
theorem gf_X0_15_r : rl_GR RX0 15 0 1 := ⟨RX0, TX0, 3, rfl, ginX0, by decide, (g_at 150 (by decide +kernel) rfl)⟩
theorem gf_X0_19 : rl_GF RX0 19 0 2 false (.int) := ⟨RX0, TX0, 3, tyX0, rfl, ginX0, tyX0_ok, nmX0, by decide, (g_at 151 (by decide +kernel) rfl), rfl, rfl, fun h => by cases h⟩
theorem gf_X0_19_r : rl_GR RX0 19 0 2 := ⟨RX0, TX0, 3, rfl, ginX0, by decide, (g_at 151 (by decide +kernel) rfl)⟩
theorem gf_X6_162 : rl_GF RX6 162 0 2 false (.int) := ⟨RX0, TX0, 3, tyX0, rfl, ginX0, tyX0_ok, nmX0, by decide, (g_at 152 (by decide +kernel) rfl), rfl, rfl, fun h => by cases h⟩
theorem gf_X6_162_r : rl_GR RX6 162 0 2 := ⟨RX0, TX0, 3, rfl, ginX0, by decide, (g_at 152 (by decide +kernel) rfl)⟩
theorem lk_X5_3 : Cond.methodLink RX5 3 Lib.objectInit ∈ g_tbl := (g_at 165 (by decide +kernel) rfl)
theorem gf_X5_11 : rl_GF RX5 11 5 0 true (.array .char) := ⟨RX5, TX5, 3, tyX5, rfl, ginX5, tyX5_ok, nmX5, by decide, (g_at 166 (by decide +kernel) rfl), rfl, rfl, fun _ => rfl⟩
theorem gf_X5_11_r : rl_GR RX5 11 5 0 := ⟨RX5, TX5, 3, rfl, ginX5, by decide, (g_at 166 (by decide +kernel) rfl)⟩
theorem gf_X5_15 : rl_GF RX5 15 5 1 false (.int) := ⟨RX5, TX5, 3, tyX5, rfl, ginX5, tyX5_ok, nmX5, by decide, (g_at 167 (by decide +kernel) rfl), rfl, rfl, fun h => by cases h⟩
theorem gf_X5_15_r : rl_GR RX5 15 5 1 := ⟨RX5, TX5, 3, rfl, ginX5, by decide, (g_at 167 (by decide +kernel) rfl)⟩
theorem gf_X5_19 : rl_GF RX5 19 5 2 false (.int) := ⟨RX5, TX5, 3, tyX5, rfl, ginX5, tyX5_ok, nmX5, by decide, (g_at 168 (by decide +kernel) rfl), rfl, rfl, fun h => by cases h⟩
theorem gf_X5_19_r : rl_GR RX5 19 5 2 := ⟨RX5, TX5, 3, rfl, ginX5, by decide, (g_at 168 (by decide +kernel) rfl)⟩
theorem lk_X3_3 : Cond.methodLink RX3 3 Lib.objectInit ∈ g_tbl := (g_at 182 (by decide +kernel) rfl)
theorem gf_X3_11 : rl_GF RX3 11 3 0 true (.array .int) := ⟨RX3, TX3, 3, tyX3, rfl, ginX3, tyX3_ok, nmX3, by decide, (g_at 183 (by decide +kernel) rfl), rfl, rfl, fun _ => rfl⟩
theorem gf_X3_11_r : rl_GR RX3 11 3 0 := ⟨RX3, TX3, 3, rfl, ginX3, by decide, (g_at 183 (by decide +kernel) rfl)⟩
theorem gf_X6_260 : rl_GR RX6 260 3 0 := ⟨RX3, TX3, 3, rfl, ginX3, by decide, (g_at 184 (by decide +kernel) rfl)⟩
theorem gf_X3_15 : rl_GF RX3 15 3 1 true (.array .int) := ⟨RX3, TX3, 3, tyX3, rfl, ginX3, tyX3_ok, nmX3, by decide, (g_at 185 (by decide +kernel) rfl), rfl, rfl, fun _ => rfl⟩
theorem gf_X3_15_r : rl_GR RX3 15 3 1 := ⟨RX3, TX3, 3, rfl, ginX3, by decide, (g_at 185 (by decide +kernel) rfl)⟩
theorem gf_X3_18 : rl_GF RX3 18 3 2 true (.array .long) := ⟨RX3, TX3, 3, tyX3, rfl, ginX3, tyX3_ok, nmX3, by decide, (g_at 186 (by decide +kernel) rfl), rfl, rfl, fun _ => rfl⟩
theorem gf_X3_18_r : rl_GR RX3 18 3 2 := ⟨RX3, TX3, 3, rfl, ginX3, by decide, (g_at 186 (by decide +kernel) rfl)⟩
theorem lk_X1_3 : Cond.methodLink RX1 3 Lib.objectInit ∈ g_tbl := (g_at 200 (by decide +kernel) rfl)
theorem gf_X1_11 : rl_GF RX1 11 1 0 true (.array .int) := ⟨RX1, TX1, 3, tyX1, rfl, ginX1, tyX1_ok, nmX1, by decide, (g_at 201 (by decide +kernel) rfl), rfl, rfl, fun _ => rfl⟩
theorem gf_X1_11_r : rl_GR RX1 11 1 0 := ⟨RX1, TX1, 3, rfl, ginX1, by decide, (g_at 201 (by decide +kernel) rfl)⟩
theorem gf_X1_17 : rl_GF RX1 17 1 1 true (.array .int) := ⟨RX1, TX1, 3, tyX1, rfl, ginX1, tyX1_ok, nmX1, by decide, (g_at 202 (by decide +kernel) rfl), rfl, rfl, fun _ => rfl⟩
theorem gf_X1_17_r : rl_GR RX1 17 1 1 := ⟨RX1, TX1, 3, rfl, ginX1, by decide, (g_at 202 (by decide +kernel) rfl)⟩
theorem gf_X1_20 : rl_GF RX1 20 1 2 false (.int) := ⟨RX1, TX1, 3, tyX1, rfl, ginX1, tyX1_ok, nmX1, by decide, (g_at 203 (by decide +kernel) rfl), rfl, rfl, fun h => by cases h⟩
theorem gf_X1_20_r : rl_GR RX1 20 1 2 := ⟨RX1, TX1, 3, rfl, ginX1, by decide, (g_at 203 (by decide +kernel) rfl)⟩
theorem lk_X2_3 : Cond.methodLink RX2 3 Lib.objectInit ∈ g_tbl := (g_at 216 (by decide +kernel) rfl)
theorem gf_X2_11 : rl_GF RX2 11 2 0 true (.array .int) := ⟨RX2, TX2, 6, tyX2, rfl, ginX2, tyX2_ok, nmX2, by decide, (g_at 217 (by decide +kernel) rfl), rfl, rfl, fun _ => rfl⟩
theorem gf_X2_11_r : rl_GR RX2 11 2 0 := ⟨RX2, TX2, 6, rfl, ginX2, by decide, (g_at 217 (by decide +kernel) rfl)⟩
theorem gf_X2_17 : rl_GF RX2 17 2 1 true (.array .int) := ⟨RX2, TX2, 6, tyX2, rfl, ginX2, tyX2_ok, nmX2, by decide, (g_at 218 (by decide +kernel) rfl), rfl, rfl, fun _ => rfl⟩
theorem gf_X2_17_r : rl_GR RX2 17 2 1 := ⟨RX2, TX2, 6, rfl, ginX2, by decide, (g_at 218 (by decide +kernel) rfl)⟩
theorem gf_X2_20 : rl_GF RX2 20 2 2 true (.array .int) := ⟨RX2, TX2, 6, tyX2, rfl, ginX2, tyX2_ok, nmX2, by decide, (g_at 219 (by decide +kernel) rfl), rfl, rfl, fun _ => rfl⟩
theorem gf_X2_20_r : rl_GR RX2 20 2 2 := ⟨RX2, TX2, 6, rfl, ginX2, by decide, (g_at 219 (by decide +kernel) rfl)⟩
theorem gf_X2_23 : rl_GF RX2 23 2 3 false (.int) := ⟨RX2, TX2, 6, tyX2, rfl, ginX2, tyX2_ok, nmX2, by decide, (g_at 220 (by decide +kernel) rfl), rfl, rfl, fun h => by cases h⟩
theorem gf_X2_23_r : rl_GR RX2 23 2 3 := ⟨RX2, TX2, 6, rfl, ginX2, by decide, (g_at 220 (by decide +kernel) rfl)⟩
theorem gf_X2_27 : rl_GF RX2 27 2 4 false (.int) := ⟨RX2, TX2, 6, tyX2, rfl, ginX2, tyX2_ok, nmX2, by decide, (g_at 221 (by decide +kernel) rfl), rfl, rfl, fun h => by cases h⟩
theorem gf_X2_27_r : rl_GR RX2 27 2 4 := ⟨RX2, TX2, 6, rfl, ginX2, by decide, (g_at 221 (by decide +kernel) rfl)⟩
theorem gf_X2_30 : rl_GF RX2 30 2 5 false (.int) := ⟨RX2, TX2, 6, tyX2, rfl, ginX2, tyX2_ok, nmX2, by decide, (g_at 222 (by decide +kernel) rfl), rfl, rfl, fun h => by cases h⟩
theorem gf_X2_30_r : rl_GR RX2 30 2 5 := ⟨RX2, TX2, 6, rfl, ginX2, by decide, (g_at 222 (by decide +kernel) rfl)⟩
theorem gf_X6_202 : rl_GF RX6 202 2 5 false (.int) := ⟨RX2, TX2, 6, tyX2, rfl, ginX2, tyX2_ok, nmX2, by decide, (g_at 223 (by decide +kernel) rfl), rfl, rfl, fun h => by cases h⟩
theorem gf_X6_202_r : rl_GR RX6 202 2 5 := ⟨RX2, TX2, 6, rfl, ginX2, by decide, (g_at 223 (by decide +kernel) rfl)⟩
theorem gf_X6_10 : rl_GF RX6 10 6 0 true (.object "PuddleClaims$Street") := ⟨RX6, TX6, 10, tyX6, rfl, ginX6, tyX6_ok, nmX6, by decide, (g_at 237 (by decide +kernel) rfl), rfl, rfl, fun _ => rfl⟩
theorem gf_X6_10_r : rl_GR RX6 10 6 0 := ⟨RX6, TX6, 10, rfl, ginX6, by decide, (g_at 237 (by decide +kernel) rfl)⟩
theorem gf_X6_19 : rl_GF RX6 19 6 1 true (.object "PuddleClaims$History") := ⟨RX6, TX6, 10, tyX6, rfl, ginX6, tyX6_ok, nmX6, by decide, (g_at 238 (by decide +kernel) rfl), rfl, rfl, fun _ => rfl⟩
theorem gf_X6_19_r : rl_GR RX6 19 6 1 := ⟨RX6, TX6, 10, rfl, ginX6, by decide, (g_at 238 (by decide +kernel) rfl)⟩
theorem gf_X6_23 : rl_GF RX6 23 6 2 true (.object "PuddleClaims$Street") := ⟨RX6, TX6, 10, tyX6, rfl, ginX6, tyX6_ok, nmX6, by decide, (g_at 239 (by decide +kernel) rfl), rfl, rfl, fun _ => rfl⟩
theorem gf_X6_23_r : rl_GR RX6 23 6 2 := ⟨RX6, TX6, 10, rfl, ginX6, by decide, (g_at 239 (by decide +kernel) rfl)⟩
theorem gf_X6_26 : rl_GF RX6 26 6 3 true (.object "PuddleClaims$Street") := ⟨RX6, TX6, 10, tyX6, rfl, ginX6, tyX6_ok, nmX6, by decide, (g_at 240 (by decide +kernel) rfl), rfl, rfl, fun _ => rfl⟩
theorem gf_X6_26_r : rl_GR RX6 26 6 3 := ⟨RX6, TX6, 10, rfl, ginX6, by decide, (g_at 240 (by decide +kernel) rfl)⟩
theorem gf_X6_29 : rl_GF RX6 29 6 4 true (.object "PuddleClaims$History") := ⟨RX6, TX6, 10, tyX6, rfl, ginX6, tyX6_ok, nmX6, by decide, (g_at 241 (by decide +kernel) rfl), rfl, rfl, fun _ => rfl⟩
theorem gf_X6_29_r : rl_GR RX6 29 6 4 := ⟨RX6, TX6, 10, rfl, ginX6, by decide, (g_at 241 (by decide +kernel) rfl)⟩
theorem gf_X6_32 : rl_GF RX6 32 6 5 false (.boolean) := ⟨RX6, TX6, 10, tyX6, rfl, ginX6, tyX6_ok, nmX6, by decide, (g_at 242 (by decide +kernel) rfl), rfl, rfl, fun h => by cases h⟩
theorem gf_X6_32_r : rl_GR RX6 32 6 5 := ⟨RX6, TX6, 10, rfl, ginX6, by decide, (g_at 242 (by decide +kernel) rfl)⟩
theorem gf_X6_39 : rl_GF RX6 39 6 6 true (.object "PuddleClaims$Tape") := ⟨RX6, TX6, 10, tyX6, rfl, ginX6, tyX6_ok, nmX6, by decide, (g_at 243 (by decide +kernel) rfl), rfl, rfl, fun _ => rfl⟩
theorem gf_X6_39_r : rl_GR RX6 39 6 6 := ⟨RX6, TX6, 10, rfl, ginX6, by decide, (g_at 243 (by decide +kernel) rfl)⟩
theorem gf_X6_46 : rl_GF RX6 46 6 7 true (.object "PuddleClaims$Sheets") := ⟨RX6, TX6, 10, tyX6, rfl, ginX6, tyX6_ok, nmX6, by decide, (g_at 244 (by decide +kernel) rfl), rfl, rfl, fun _ => rfl⟩
theorem gf_X6_46_r : rl_GR RX6 46 6 7 := ⟨RX6, TX6, 10, rfl, ginX6, by decide, (g_at 244 (by decide +kernel) rfl)⟩
theorem gf_X6_53 : rl_GF RX6 53 6 8 true (.object "PuddleClaims$Matching") := ⟨RX6, TX6, 10, tyX6, rfl, ginX6, tyX6_ok, nmX6, by decide, (g_at 245 (by decide +kernel) rfl), rfl, rfl, fun _ => rfl⟩
theorem gf_X6_53_r : rl_GR RX6 53 6 8 := ⟨RX6, TX6, 10, rfl, ginX6, by decide, (g_at 245 (by decide +kernel) rfl)⟩
theorem gf_X6_60 : rl_GF RX6 60 6 9 true (.object "PuddleClaims$Orders") := ⟨RX6, TX6, 10, tyX6, rfl, ginX6, tyX6_ok, nmX6, by decide, (g_at 246 (by decide +kernel) rfl), rfl, rfl, fun _ => rfl⟩
theorem gf_X6_60_r : rl_GR RX6 60 6 9 := ⟨RX6, TX6, 10, rfl, ginX6, by decide, (g_at 246 (by decide +kernel) rfl)⟩
theorem lk_L_13 : Cond.methodLink RL 13 yX6_puddle ∈ g_tbl := (g_at 268 (by decide +kernel) rfl)
theorem lk_X6_64 : Cond.methodLink RX6 64 yX6_within ∈ g_tbl := (g_at 272 (by decide +kernel) rfl)
theorem lk_X6_68 : Cond.methodLink RX6 68 yX6_isSight ∈ g_tbl := (g_at 275 (by decide +kernel) rfl)
theorem lk_X6_72 : Cond.methodLink RX6 72 yX4_addPuddle ∈ g_tbl := (g_at 278 (by decide +kernel) rfl)
theorem lk_X6_76 : Cond.methodLink RX6 76 yX0_forget ∈ g_tbl := (g_at 282 (by decide +kernel) rfl)
theorem lk_L_18 : Cond.methodLink RL 18 yX6_person ∈ g_tbl := (g_at 286 (by decide +kernel) rfl)
theorem lk_X6_79 : Cond.methodLink RX6 79 yX6_isComing ∈ g_tbl := (g_at 290 (by decide +kernel) rfl)
theorem lk_X6_82 : Cond.methodLink RX6 82 yX4_addPerson ∈ g_tbl := (g_at 293 (by decide +kernel) rfl)
theorem lk_L_22 : Cond.methodLink RL 22 yX6_show ∈ g_tbl := (g_at 297 (by decide +kernel) rfl)
theorem lk_X6_85 : Cond.methodLink RX6 85 yX4_hasPuddle ∈ g_tbl := (g_at 301 (by decide +kernel) rfl)
theorem lk_L_27 : Cond.methodLink RL 27 yX6_of ∈ g_tbl := (g_at 305 (by decide +kernel) rfl)
theorem lk_X6_98 : Cond.methodLink RX6 98 yX4_claimantOf ∈ g_tbl := (g_at 309 (by decide +kernel) rfl)
theorem lk_X6_102 : Cond.methodLink RX6 102 yX4_drySet ∈ g_tbl := (g_at 313 (by decide +kernel) rfl)
theorem lk_X4_52 : Cond.methodLink RX4 52 yX4_isDry ∈ g_tbl := (g_at 317 (by decide +kernel) rfl)
theorem lk_X6_106 : Cond.methodLink RX6 106 yX4_lessBy ∈ g_tbl := (g_at 321 (by decide +kernel) rfl)
theorem lk_X4_67 : Cond.methodLink RX4 67 yX4_shadyLoss ∈ g_tbl := (g_at 325 (by decide +kernel) rfl)
theorem lk_X4_70 : Cond.methodLink RX4 70 yX4_kerbLoss ∈ g_tbl := (g_at 328 (by decide +kernel) rfl)
theorem lk_X4_73 : Cond.methodLink RX4 73 yX4_neighbours ∈ g_tbl := (g_at 332 (by decide +kernel) rfl)
theorem lk_X4_77 : Cond.methodLink RX4 77 yJ6_bitCount_0f7a4 ∈ g_tbl := (g_at 335 (by decide +kernel) rfl)
theorem kc_J6_265 : Cond.constant RJ6 265 (1431655765 : Int32) ∈ g_tbl := (g_at 338 (by decide +kernel) rfl)
theorem kc_J6_266 : Cond.constant RJ6 266 (858993459 : Int32) ∈ g_tbl := (g_at 339 (by decide +kernel) rfl)
theorem kc_J6_267 : Cond.constant RJ6 267 (252645135 : Int32) ∈ g_tbl := (g_at 340 (by decide +kernel) rfl)
theorem lk_L_31 : Cond.methodLink RL 31 yX6_at ∈ g_tbl := (g_at 341 (by decide +kernel) rfl)
theorem lk_X6_110 : Cond.methodLink RX6 110 yX4_hasPerson ∈ g_tbl := (g_at 345 (by decide +kernel) rfl)
theorem lk_X6_125 : Cond.methodLink RX6 125 yX4_fitSet ∈ g_tbl := (g_at 349 (by decide +kernel) rfl)
theorem lk_X4_59 : Cond.methodLink RX4 59 yX4_claimedSet ∈ g_tbl := (g_at 353 (by decide +kernel) rfl)
theorem lk_X4_56 : Cond.methodLink RX4 56 yX4_hasClaimed ∈ g_tbl := (g_at 357 (by decide +kernel) rfl)
theorem lk_X4_63 : Cond.methodLink RX4 63 yX4_isFit ∈ g_tbl := (g_at 361 (by decide +kernel) rfl)
theorem lk_L_35 : Cond.methodLink RL 35 yX6_type ∈ g_tbl := (g_at 365 (by decide +kernel) rfl)
theorem lk_X6_128 : Cond.methodLink RX6 128 yX5_add ∈ g_tbl := (g_at 369 (by decide +kernel) rfl)
theorem lk_L_40 : Cond.methodLink RL 40 yX6_read ∈ g_tbl := (g_at 373 (by decide +kernel) rfl)
theorem lk_X6_132 : Cond.methodLink RX6 132 yX5_parse ∈ g_tbl := (g_at 377 (by decide +kernel) rfl)
theorem lk_X5_22 : Cond.methodLink RX5 22 yX4_empty ∈ g_tbl := (g_at 381 (by decide +kernel) rfl)
theorem lk_X5_27 : Cond.methodLink RX5 27 yX5_parsePuddles ∈ g_tbl := (g_at 385 (by decide +kernel) rfl)
theorem lk_X5_31 : Cond.methodLink RX5 31 yX5_take ∈ g_tbl := (g_at 389 (by decide +kernel) rfl)
theorem lk_X5_38 : Cond.methodLink RX5 38 yX5_skipBlanks ∈ g_tbl := (g_at 393 (by decide +kernel) rfl)
theorem lk_X5_45 : Cond.methodLink RX5 45 yX5_parseKind ∈ g_tbl := (g_at 397 (by decide +kernel) rfl)
theorem lk_X5_65 : Cond.methodLink RX5 65 yJ0_indexOf_0f7a4 ∈ g_tbl := (g_at 402 (by decide +kernel) rfl)
theorem lk_J0_633 : Cond.methodLink RJ0 633 yJ0_indexOf_7cf53 ∈ g_tbl := (g_at 406 (by decide +kernel) rfl)
theorem lk_J0_492 : Cond.methodLink RJ0 492 yJ0_isLatin1_aae02 ∈ g_tbl := (g_at 410 (by decide +kernel) rfl)
theorem lk_J0_505 : Cond.methodLink RJ0 505 yJ0_length_8abf5 ∈ g_tbl := (g_at 416 (by decide +kernel) rfl)
theorem lk_J0_335 : Cond.methodLink RJ0 335 yJ0_coder_7d493 ∈ g_tbl := (g_at 420 (by decide +kernel) rfl)
theorem lk_J0_637 : Cond.methodLink RJ0 637 yJ1_indexOf_4cfef ∈ g_tbl := (g_at 424 (by decide +kernel) rfl)
theorem lk_J1_88 : Cond.methodLink RJ1 88 yJ1_canEncode_9a6ad ∈ g_tbl := (g_at 427 (by decide +kernel) rfl)
theorem lk_J1_92 : Cond.methodLink RJ1 92 Lib.Math.max.name ∈ g_tbl := (g_at 430 (by decide +kernel) rfl)
theorem lk_J1_38 : Cond.methodLink RJ1 38 Lib.Math.min.name ∈ g_tbl := (g_at 433 (by decide +kernel) rfl)
theorem lk_J1_95 : Cond.methodLink RJ1 95 yJ1_indexOfChar_4cfef ∈ g_tbl := (g_at 436 (by decide +kernel) rfl)
theorem lk_J0_640 : Cond.methodLink RJ0 640 yJ2_indexOf_4cfef ∈ g_tbl := (g_at 439 (by decide +kernel) rfl)
theorem lk_J2_224 : Cond.methodLink RJ2 224 Lib.Math.max.name ∈ g_tbl := (g_at 442 (by decide +kernel) rfl)
theorem lk_J2_183 : Cond.methodLink RJ2 183 Lib.Math.min.name ∈ g_tbl := (g_at 443 (by decide +kernel) rfl)
theorem kc_J2_227 : Cond.constant RJ2 227 (65536 : Int32) ∈ g_tbl := (g_at 444 (by decide +kernel) rfl)
theorem lk_J2_228 : Cond.methodLink RJ2 228 yJ2_indexOfChar_4cfef ∈ g_tbl := (g_at 445 (by decide +kernel) rfl)
theorem lk_J2_96 : Cond.methodLink RJ2 96 yJ2_checkBoundsBeginEnd_d044e ∈ g_tbl := (g_at 448 (by decide +kernel) rfl)
theorem lk_J2_48 : Cond.methodLink RJ2 48 yJ2_length_9d52b ∈ g_tbl := (g_at 451 (by decide +kernel) rfl)
theorem lk_J2_241 : Cond.methodLink RJ2 241 yJ0_checkBoundsBeginEnd_23922 ∈ g_tbl := (g_at 454 (by decide +kernel) rfl)
theorem lk_J0_1062 : Cond.methodLink RJ0 1062 yJ3_checkFromToIndex_8c36e ∈ g_tbl := (g_at 459 (by decide +kernel) rfl)
theorem lk_J2_244 : Cond.methodLink RJ2 244 yJ2_indexOfCharUnsafe_4cfef ∈ g_tbl := (g_at 462 (by decide +kernel) rfl)
theorem lk_J2_71 : Cond.methodLink RJ2 71 yJ2_getChar_3b067 ∈ g_tbl := (g_at 465 (by decide +kernel) rfl)
theorem lk_J2_232 : Cond.methodLink RJ2 232 yJ2_indexOfSupplementary_4cfef ∈ g_tbl := (g_at 474 (by decide +kernel) rfl)
theorem lk_J2_164 : Cond.methodLink RJ2 164 yJ11_isValidCodePoint_9a6ad ∈ g_tbl := (g_at 477 (by decide +kernel) rfl)
theorem lk_J2_157 : Cond.methodLink RJ2 157 yJ11_highSurrogate_5068e ∈ g_tbl := (g_at 480 (by decide +kernel) rfl)
theorem kc_J11_110 : Cond.constant RJ11 110 (55232 : Int32) ∈ g_tbl := (g_at 483 (by decide +kernel) rfl)
theorem lk_J2_161 : Cond.methodLink RJ2 161 yJ11_lowSurrogate_5068e ∈ g_tbl := (g_at 484 (by decide +kernel) rfl)
theorem kc_J11_76 : Cond.constant RJ11 76 (56320 : Int32) ∈ g_tbl := (g_at 487 (by decide +kernel) rfl)
theorem lk_X5_41 : Cond.methodLink RX5 41 yX5_faultAt ∈ g_tbl := (g_at 488 (by decide +kernel) rfl)
theorem lk_X5_49 : Cond.methodLink RX5 49 yX5_parseSight ∈ g_tbl := (g_at 491 (by decide +kernel) rfl)
theorem lk_X5_70 : Cond.methodLink RX5 70 yX5_digitHere ∈ g_tbl := (g_at 495 (by decide +kernel) rfl)
theorem lk_X5_52 : Cond.methodLink RX5 52 yX5_parseNumber ∈ g_tbl := (g_at 499 (by decide +kernel) rfl)
theorem lk_X5_56 : Cond.methodLink RX5 56 yX4_addPuddle ∈ g_tbl := (g_at 503 (by decide +kernel) rfl)
theorem lk_X5_35 : Cond.methodLink RX5 35 yX5_parsePeople ∈ g_tbl := (g_at 504 (by decide +kernel) rfl)
theorem lk_X5_60 : Cond.methodLink RX5 60 yX4_addPerson ∈ g_tbl := (g_at 508 (by decide +kernel) rfl)
theorem lk_X6_140 : Cond.methodLink RX6 140 yX4_copyFrom ∈ g_tbl := (g_at 509 (by decide +kernel) rfl)
theorem lk_X4_46 : Cond.methodLink RX4 46 arraycopyName ∈ g_tbl := (g_at 513 (by decide +kernel) rfl)
theorem lk_L_45 : Cond.methodLink RL 45 yX6_count ∈ g_tbl := (g_at 517 (by decide +kernel) rfl)
theorem lk_X6_153 : Cond.methodLink RX6 153 yX4_depthOfAll ∈ g_tbl := (g_at 521 (by decide +kernel) rfl)
theorem lk_X6_156 : Cond.methodLink RX6 156 yX4_claimants ∈ g_tbl := (g_at 525 (by decide +kernel) rfl)
theorem lk_X6_159 : Cond.methodLink RX6 159 yX4_claimedSet ∈ g_tbl := (g_at 529 (by decide +kernel) rfl)
theorem lk_L_49 : Cond.methodLink RL 49 yX6_hours ∈ g_tbl := (g_at 530 (by decide +kernel) rfl)
theorem lk_X6_165 : Cond.methodLink RX6 165 yX6_passHours ∈ g_tbl := (g_at 534 (by decide +kernel) rfl)
theorem lk_X6_169 : Cond.methodLink RX6 169 yX0_remember ∈ g_tbl := (g_at 538 (by decide +kernel) rfl)
theorem lk_X0_25 : Cond.methodLink RX0 25 arraycopyName ∈ g_tbl := (g_at 542 (by decide +kernel) rfl)
theorem lk_X0_43 : Cond.methodLink RX0 43 Lib.Math.min.name ∈ g_tbl := (g_at 543 (by decide +kernel) rfl)
theorem lk_X6_270 : Cond.methodLink RX6 270 yX4_drawCart ∈ g_tbl := (g_at 544 (by decide +kernel) rfl)
theorem kc_X4_117 : Cond.constant RX4 117 (1103515245 : Int32) ∈ g_tbl := (g_at 548 (by decide +kernel) rfl)
theorem kc_X4_118 : Cond.constant RX4 118 (2147483647 : Int32) ∈ g_tbl := (g_at 549 (by decide +kernel) rfl)
theorem kc_X4_119 : Cond.constant RX4 119 (65536 : Int32) ∈ g_tbl := (g_at 550 (by decide +kernel) rfl)
theorem lk_X4_120 : Cond.methodLink RX4 120 yX4_halve ∈ g_tbl := (g_at 551 (by decide +kernel) rfl)
theorem lk_X6_189 : Cond.methodLink RX6 189 yX4_passHour ∈ g_tbl := (g_at 555 (by decide +kernel) rfl)
theorem lk_X4_82 : Cond.methodLink RX4 82 yX4_letClaim ∈ g_tbl := (g_at 559 (by decide +kernel) rfl)
theorem lk_X4_88 : Cond.methodLink RX4 88 yX4_deepestFit ∈ g_tbl := (g_at 563 (by decide +kernel) rfl)
theorem lk_X4_85 : Cond.methodLink RX4 85 yX4_lessen ∈ g_tbl := (g_at 567 (by decide +kernel) rfl)
theorem lk_X4_92 : Cond.methodLink RX4 92 yX4_drySet ∈ g_tbl := (g_at 571 (by decide +kernel) rfl)
theorem lk_X4_95 : Cond.methodLink RX4 95 yX4_lessBy ∈ g_tbl := (g_at 572 (by decide +kernel) rfl)
theorem lk_X4_99 : Cond.methodLink RX4 99 Lib.Math.max.name ∈ g_tbl := (g_at 573 (by decide +kernel) rfl)
theorem lk_L_53 : Cond.methodLink RL 53 yX6_rain ∈ g_tbl := (g_at 574 (by decide +kernel) rfl)
theorem lk_X6_172 : Cond.methodLink RX6 172 yX4_deepen ∈ g_tbl := (g_at 578 (by decide +kernel) rfl)
theorem lk_X4_114 : Cond.methodLink RX4 114 Lib.Math.min.name ∈ g_tbl := (g_at 582 (by decide +kernel) rfl)
theorem lk_L_57 : Cond.methodLink RL 57 yX6_drive ∈ g_tbl := (g_at 583 (by decide +kernel) rfl)
theorem lk_X6_176 : Cond.methodLink RX6 176 yX4_isDry ∈ g_tbl := (g_at 587 (by decide +kernel) rfl)
theorem lk_X6_179 : Cond.methodLink RX6 179 yX4_halve ∈ g_tbl := (g_at 588 (by decide +kernel) rfl)
theorem lk_L_61 : Cond.methodLink RL 61 yX6_send ∈ g_tbl := (g_at 589 (by decide +kernel) rfl)
theorem lk_X6_182 : Cond.methodLink RX6 182 yX4_hasClaimed ∈ g_tbl := (g_at 593 (by decide +kernel) rfl)
theorem lk_L_65 : Cond.methodLink RL 65 yX6_later ∈ g_tbl := (g_at 594 (by decide +kernel) rfl)
theorem lk_L_69 : Cond.methodLink RL 69 yX6_drift ∈ g_tbl := (g_at 598 (by decide +kernel) rfl)
theorem lk_L_73 : Cond.methodLink RL 73 yX6_undo ∈ g_tbl := (g_at 602 (by decide +kernel) rfl)
theorem lk_X6_185 : Cond.methodLink RX6 185 yX0_recall ∈ g_tbl := (g_at 606 (by decide +kernel) rfl)
theorem lk_L_77 : Cond.methodLink RL 77 yX6_seed ∈ g_tbl := (g_at 610 (by decide +kernel) rfl)
theorem lk_L_81 : Cond.methodLink RL 81 yX6_ahead ∈ g_tbl := (g_at 614 (by decide +kernel) rfl)
theorem lk_L_85 : Cond.methodLink RL 85 yX6_claims ∈ g_tbl := (g_at 618 (by decide +kernel) rfl)
theorem lk_X6_192 : Cond.methodLink RX6 192 yX4_claimantsBehind ∈ g_tbl := (g_at 622 (by decide +kernel) rfl)
theorem lk_X4_104 : Cond.methodLink RX4 104 yX4_isAnyoneToCome ∈ g_tbl := (g_at 626 (by decide +kernel) rfl)
theorem lk_X4_108 : Cond.methodLink RX4 108 yX4_passHour ∈ g_tbl := (g_at 630 (by decide +kernel) rfl)
theorem lk_X4_111 : Cond.methodLink RX4 111 yX4_claimants ∈ g_tbl := (g_at 631 (by decide +kernel) rfl)
theorem lk_L_89 : Cond.methodLink RL 89 yX6_then ∈ g_tbl := (g_at 632 (by decide +kernel) rfl)
theorem lk_L_93 : Cond.methodLink RL 93 yX6_served ∈ g_tbl := (g_at 636 (by decide +kernel) rfl)
theorem lk_L_97 : Cond.methodLink RL 97 yX6_dries ∈ g_tbl := (g_at 640 (by decide +kernel) rfl)
theorem lk_L_101 : Cond.methodLink RL 101 yX6_match ∈ g_tbl := (g_at 644 (by decide +kernel) rfl)
theorem lk_X6_195 : Cond.methodLink RX6 195 yX1_greatest ∈ g_tbl := (g_at 648 (by decide +kernel) rfl)
theorem lk_X1_27 : Cond.methodLink RX1 27 yX4_fitSet ∈ g_tbl := (g_at 652 (by decide +kernel) rfl)
theorem lk_X1_31 : Cond.methodLink RX1 31 yX4_hasClaimed ∈ g_tbl := (g_at 653 (by decide +kernel) rfl)
theorem lk_X1_35 : Cond.methodLink RX1 35 yX1_findsOne ∈ g_tbl := (g_at 654 (by decide +kernel) rfl)
theorem lk_L_105 : Cond.methodLink RL 105 yX6_latest ∈ g_tbl := (g_at 658 (by decide +kernel) rfl)
theorem lk_L_109 : Cond.methodLink RL 109 yX6_order ∈ g_tbl := (g_at 662 (by decide +kernel) rfl)
theorem lk_X6_198 : Cond.methodLink RX6 198 yX2_search ∈ g_tbl := (g_at 666 (by decide +kernel) rfl)
theorem lk_X2_33 : Cond.methodLink RX2 33 yX4_claimants ∈ g_tbl := (g_at 670 (by decide +kernel) rfl)
theorem lk_X2_40 : Cond.methodLink RX2 40 yJ6_bitCount_0f7a4 ∈ g_tbl := (g_at 671 (by decide +kernel) rfl)
theorem lk_X2_49 : Cond.methodLink RX2 49 arraycopyName ∈ g_tbl := (g_at 672 (by decide +kernel) rfl)
theorem lk_X2_55 : Cond.methodLink RX2 55 yX4_lessen ∈ g_tbl := (g_at 673 (by decide +kernel) rfl)
theorem lk_X2_58 : Cond.methodLink RX2 58 yX4_claimedSet ∈ g_tbl := (g_at 674 (by decide +kernel) rfl)
theorem lk_X2_61 : Cond.methodLink RX2 61 yX2_choose ∈ g_tbl := (g_at 675 (by decide +kernel) rfl)
theorem lk_X2_65 : Cond.methodLink RX2 65 yX4_deepestFit ∈ g_tbl := (g_at 679 (by decide +kernel) rfl)
theorem lk_X6_205 : Cond.methodLink RX6 205 yX2_nth ∈ g_tbl := (g_at 680 (by decide +kernel) rfl)
theorem lk_L_113 : Cond.methodLink RL 113 yX6_wet ∈ g_tbl := (g_at 684 (by decide +kernel) rfl)
theorem lk_X6_208 : Cond.methodLink RX6 208 yJ6_bitCount_0f7a4 ∈ g_tbl := (g_at 688 (by decide +kernel) rfl)
theorem lk_L_117 : Cond.methodLink RL 117 yX6_matters ∈ g_tbl := (g_at 689 (by decide +kernel) rfl)
theorem lk_L_121 : Cond.methodLink RL 121 yX6_sight ∈ g_tbl := (g_at 693 (by decide +kernel) rfl)
theorem lk_L_125 : Cond.methodLink RL 125 yX6_carts ∈ g_tbl := (g_at 697 (by decide +kernel) rfl)
theorem lk_X6_213 : Cond.methodLink RX6 213 yX6_weightOf ∈ g_tbl := (g_at 701 (by decide +kernel) rfl)
theorem lk_X6_216 : Cond.methodLink RX6 216 yX6_hasClaimedBehindCarts ∈ g_tbl := (g_at 705 (by decide +kernel) rfl)
theorem lk_X6_220 : Cond.methodLink RX6 220 yX6_weightOfAll ∈ g_tbl := (g_at 709 (by decide +kernel) rfl)
theorem lk_X6_223 : Cond.methodLink RX6 223 yX6_commonDivisor ∈ g_tbl := (g_at 713 (by decide +kernel) rfl)
theorem lk_L_129 : Cond.methodLink RL 129 yX6_image ∈ g_tbl := (g_at 716 (by decide +kernel) rfl)
theorem lk_X6_226 : Cond.methodLink RX6 226 yX0_copyFrom ∈ g_tbl := (g_at 720 (by decide +kernel) rfl)
theorem lk_L_133 : Cond.methodLink RL 133 yX6_restore ∈ g_tbl := (g_at 724 (by decide +kernel) rfl)
theorem lk_L_137 : Cond.methodLink RL 137 yX6_dipped ∈ g_tbl := (g_at 728 (by decide +kernel) rfl)
theorem lk_X6_229 : Cond.methodLink RX6 229 yX3_isSheet ∈ g_tbl := (g_at 732 (by decide +kernel) rfl)
theorem lk_X6_232 : Cond.methodLink RX6 232 yX3_isLane ∈ g_tbl := (g_at 735 (by decide +kernel) rfl)
theorem lk_X6_235 : Cond.methodLink RX6 235 yX3_refusal ∈ g_tbl := (g_at 738 (by decide +kernel) rfl)
theorem lk_X3_22 : Cond.methodLink RX3 22 yX3_isHeld ∈ g_tbl := (g_at 742 (by decide +kernel) rfl)
theorem lk_X3_26 : Cond.methodLink RX3 26 yX3_holds ∈ g_tbl := (g_at 746 (by decide +kernel) rfl)
theorem lk_X6_239 : Cond.methodLink RX6 239 yX6_kindsDipped ∈ g_tbl := (g_at 750 (by decide +kernel) rfl)
theorem lk_X6_273 : Cond.methodLink RX6 273 yX6_draftAgrees ∈ g_tbl := (g_at 754 (by decide +kernel) rfl)
theorem lk_X6_277 : Cond.methodLink RX6 277 yX3_valueAt ∈ g_tbl := (g_at 758 (by decide +kernel) rfl)
theorem lk_X6_242 : Cond.methodLink RX6 242 yX6_depthsDipped ∈ g_tbl := (g_at 762 (by decide +kernel) rfl)
theorem lk_L_142 : Cond.methodLink RL 142 yX6_film ∈ g_tbl := (g_at 766 (by decide +kernel) rfl)
theorem lk_X6_246 : Cond.methodLink RX6 246 yX3_put ∈ g_tbl := (g_at 770 (by decide +kernel) rfl)
theorem lk_X3_30 : Cond.methodLink RX3 30 yX3_lowestBits ∈ g_tbl := (g_at 774 (by decide +kernel) rfl)
theorem lk_L_147 : Cond.methodLink RL 147 yX6_sheet ∈ g_tbl := (g_at 777 (by decide +kernel) rfl)
theorem lk_X6_250 : Cond.methodLink RX6 250 yX3_renew ∈ g_tbl := (g_at 781 (by decide +kernel) rfl)
theorem lk_L_151 : Cond.methodLink RL 151 yX6_drop ∈ g_tbl := (g_at 785 (by decide +kernel) rfl)
theorem lk_X6_254 : Cond.methodLink RX6 254 yX3_isHeld ∈ g_tbl := (g_at 789 (by decide +kernel) rfl)
theorem lk_X6_257 : Cond.methodLink RX6 257 yX3_clear ∈ g_tbl := (g_at 790 (by decide +kernel) rfl)
theorem lk_L_157 : Cond.methodLink RL 157 yX6_item ∈ g_tbl := (g_at 794 (by decide +kernel) rfl)
theorem lk_L_162 : Cond.methodLink RL 162 yX6_copy ∈ g_tbl := (g_at 798 (by decide +kernel) rfl)
theorem lk_X6_263 : Cond.methodLink RX6 263 yX3_holds ∈ g_tbl := (g_at 802 (by decide +kernel) rfl)
theorem lk_X6_266 : Cond.methodLink RX6 266 yX3_move ∈ g_tbl := (g_at 803 (by decide +kernel) rfl)
theorem lk_X3_34 : Cond.methodLink RX3 34 arraycopyName ∈ g_tbl := (g_at 807 (by decide +kernel) rfl)
theorem lk_L_12 : Cond.methodLink RL 12 yX7_init ∈ g_tbl := (g_at 810 (by decide +kernel) rfl)
theorem lk_X7_1 : Cond.methodLink RX7 1 Lib.objectInit ∈ g_tbl := (g_at 813 (by decide +kernel) rfl)
theorem gf_X7_7 : rl_GF RX7 7 7 0 true (.array .int) := ⟨RX7, TX7, 22, tyX7, rfl, ginX7, tyX7_ok, nmX7, by decide, (g_at 814 (by decide +kernel) rfl), rfl, rfl, fun _ => rfl⟩
theorem gf_X7_7_r : rl_GR RX7 7 7 0 := ⟨RX7, TX7, 22, rfl, ginX7, by decide, (g_at 814 (by decide +kernel) rfl)⟩
theorem gf_X7_13 : rl_GF RX7 13 7 1 true (.array .int) := ⟨RX7, TX7, 22, tyX7, rfl, ginX7, tyX7_ok, nmX7, by decide, (g_at 815 (by decide +kernel) rfl), rfl, rfl, fun _ => rfl⟩
theorem gf_X7_13_r : rl_GR RX7 13 7 1 := ⟨RX7, TX7, 22, rfl, ginX7, by decide, (g_at 815 (by decide +kernel) rfl)⟩
theorem gf_X7_16 : rl_GF RX7 16 7 2 true (.array .int) := ⟨RX7, TX7, 22, tyX7, rfl, ginX7, tyX7_ok, nmX7, by decide, (g_at 816 (by decide +kernel) rfl), rfl, rfl, fun _ => rfl⟩
theorem gf_X7_16_r : rl_GR RX7 16 7 2 := ⟨RX7, TX7, 22, rfl, ginX7, by decide, (g_at 816 (by decide +kernel) rfl)⟩
theorem gf_X7_152 : rl_GF RX7 152 7 3 false (.int) := ⟨RX7, TX7, 22, tyX7, rfl, ginX7, tyX7_ok, nmX7, by decide, (g_at 817 (by decide +kernel) rfl), rfl, rfl, fun h => by cases h⟩
theorem gf_X7_152_r : rl_GR RX7 152 7 3 := ⟨RX7, TX7, 22, rfl, ginX7, by decide, (g_at 817 (by decide +kernel) rfl)⟩
theorem gf_X7_155 : rl_GF RX7 155 7 4 false (.int) := ⟨RX7, TX7, 22, tyX7, rfl, ginX7, tyX7_ok, nmX7, by decide, (g_at 818 (by decide +kernel) rfl), rfl, rfl, fun h => by cases h⟩
theorem gf_X7_155_r : rl_GR RX7 155 7 4 := ⟨RX7, TX7, 22, rfl, ginX7, by decide, (g_at 818 (by decide +kernel) rfl)⟩
theorem gf_X7_158 : rl_GF RX7 158 7 5 false (.boolean) := ⟨RX7, TX7, 22, tyX7, rfl, ginX7, tyX7_ok, nmX7, by decide, (g_at 819 (by decide +kernel) rfl), rfl, rfl, fun h => by cases h⟩
theorem gf_X7_158_r : rl_GR RX7 158 7 5 := ⟨RX7, TX7, 22, rfl, ginX7, by decide, (g_at 819 (by decide +kernel) rfl)⟩
theorem gf_X7_19 : rl_GF RX7 19 7 6 true (.array .int) := ⟨RX7, TX7, 22, tyX7, rfl, ginX7, tyX7_ok, nmX7, by decide, (g_at 820 (by decide +kernel) rfl), rfl, rfl, fun _ => rfl⟩
theorem gf_X7_19_r : rl_GR RX7 19 7 6 := ⟨RX7, TX7, 22, rfl, ginX7, by decide, (g_at 820 (by decide +kernel) rfl)⟩
theorem gf_X7_22 : rl_GF RX7 22 7 7 true (.array .int) := ⟨RX7, TX7, 22, tyX7, rfl, ginX7, tyX7_ok, nmX7, by decide, (g_at 821 (by decide +kernel) rfl), rfl, rfl, fun _ => rfl⟩
theorem gf_X7_22_r : rl_GR RX7 22 7 7 := ⟨RX7, TX7, 22, rfl, ginX7, by decide, (g_at 821 (by decide +kernel) rfl)⟩
theorem gf_X7_25 : rl_GF RX7 25 7 8 true (.array .int) := ⟨RX7, TX7, 22, tyX7, rfl, ginX7, tyX7_ok, nmX7, by decide, (g_at 822 (by decide +kernel) rfl), rfl, rfl, fun _ => rfl⟩
theorem gf_X7_25_r : rl_GR RX7 25 7 8 := ⟨RX7, TX7, 22, rfl, ginX7, by decide, (g_at 822 (by decide +kernel) rfl)⟩
theorem gf_X7_109 : rl_GF RX7 109 7 9 false (.int) := ⟨RX7, TX7, 22, tyX7, rfl, ginX7, tyX7_ok, nmX7, by decide, (g_at 823 (by decide +kernel) rfl), rfl, rfl, fun h => by cases h⟩
theorem gf_X7_109_r : rl_GR RX7 109 7 9 := ⟨RX7, TX7, 22, rfl, ginX7, by decide, (g_at 823 (by decide +kernel) rfl)⟩
theorem gf_X7_28 : rl_GF RX7 28 7 10 true (.array .int) := ⟨RX7, TX7, 22, tyX7, rfl, ginX7, tyX7_ok, nmX7, by decide, (g_at 824 (by decide +kernel) rfl), rfl, rfl, fun _ => rfl⟩
theorem gf_X7_28_r : rl_GR RX7 28 7 10 := ⟨RX7, TX7, 22, rfl, ginX7, by decide, (g_at 824 (by decide +kernel) rfl)⟩
theorem gf_X7_31 : rl_GF RX7 31 7 11 true (.array .int) := ⟨RX7, TX7, 22, tyX7, rfl, ginX7, tyX7_ok, nmX7, by decide, (g_at 825 (by decide +kernel) rfl), rfl, rfl, fun _ => rfl⟩
theorem gf_X7_31_r : rl_GR RX7 31 7 11 := ⟨RX7, TX7, 22, rfl, ginX7, by decide, (g_at 825 (by decide +kernel) rfl)⟩
theorem gf_X7_34 : rl_GF RX7 34 7 12 true (.array .int) := ⟨RX7, TX7, 22, tyX7, rfl, ginX7, tyX7_ok, nmX7, by decide, (g_at 826 (by decide +kernel) rfl), rfl, rfl, fun _ => rfl⟩
theorem gf_X7_34_r : rl_GR RX7 34 7 12 := ⟨RX7, TX7, 22, rfl, ginX7, by decide, (g_at 826 (by decide +kernel) rfl)⟩
theorem gf_X7_37 : rl_GF RX7 37 7 13 true (.array .int) := ⟨RX7, TX7, 22, tyX7, rfl, ginX7, tyX7_ok, nmX7, by decide, (g_at 827 (by decide +kernel) rfl), rfl, rfl, fun _ => rfl⟩
theorem gf_X7_37_r : rl_GR RX7 37 7 13 := ⟨RX7, TX7, 22, rfl, ginX7, by decide, (g_at 827 (by decide +kernel) rfl)⟩
theorem gf_X7_40 : rl_GF RX7 40 7 14 true (.array .int) := ⟨RX7, TX7, 22, tyX7, rfl, ginX7, tyX7_ok, nmX7, by decide, (g_at 828 (by decide +kernel) rfl), rfl, rfl, fun _ => rfl⟩
theorem gf_X7_40_r : rl_GR RX7 40 7 14 := ⟨RX7, TX7, 22, rfl, ginX7, by decide, (g_at 828 (by decide +kernel) rfl)⟩
theorem gf_X7_43 : rl_GF RX7 43 7 15 true (.array .int) := ⟨RX7, TX7, 22, tyX7, rfl, ginX7, tyX7_ok, nmX7, by decide, (g_at 829 (by decide +kernel) rfl), rfl, rfl, fun _ => rfl⟩
theorem gf_X7_43_r : rl_GR RX7 43 7 15 := ⟨RX7, TX7, 22, rfl, ginX7, by decide, (g_at 829 (by decide +kernel) rfl)⟩
theorem gf_X7_224 : rl_GF RX7 224 7 16 false (.int) := ⟨RX7, TX7, 22, tyX7, rfl, ginX7, tyX7_ok, nmX7, by decide, (g_at 830 (by decide +kernel) rfl), rfl, rfl, fun h => by cases h⟩
theorem gf_X7_224_r : rl_GR RX7 224 7 16 := ⟨RX7, TX7, 22, rfl, ginX7, by decide, (g_at 830 (by decide +kernel) rfl)⟩
theorem gf_X7_227 : rl_GF RX7 227 7 17 false (.boolean) := ⟨RX7, TX7, 22, tyX7, rfl, ginX7, tyX7_ok, nmX7, by decide, (g_at 831 (by decide +kernel) rfl), rfl, rfl, fun h => by cases h⟩
theorem gf_X7_227_r : rl_GR RX7 227 7 17 := ⟨RX7, TX7, 22, rfl, ginX7, by decide, (g_at 831 (by decide +kernel) rfl)⟩
theorem gf_X7_46 : rl_GF RX7 46 7 18 true (.array .int) := ⟨RX7, TX7, 22, tyX7, rfl, ginX7, tyX7_ok, nmX7, by decide, (g_at 832 (by decide +kernel) rfl), rfl, rfl, fun _ => rfl⟩
theorem gf_X7_46_r : rl_GR RX7 46 7 18 := ⟨RX7, TX7, 22, rfl, ginX7, by decide, (g_at 832 (by decide +kernel) rfl)⟩
theorem gf_X7_49 : rl_GF RX7 49 7 19 true (.array .int) := ⟨RX7, TX7, 22, tyX7, rfl, ginX7, tyX7_ok, nmX7, by decide, (g_at 833 (by decide +kernel) rfl), rfl, rfl, fun _ => rfl⟩
theorem gf_X7_49_r : rl_GR RX7 49 7 19 := ⟨RX7, TX7, 22, rfl, ginX7, by decide, (g_at 833 (by decide +kernel) rfl)⟩
theorem gf_X7_52 : rl_GF RX7 52 7 20 true (.array .long) := ⟨RX7, TX7, 22, tyX7, rfl, ginX7, tyX7_ok, nmX7, by decide, (g_at 834 (by decide +kernel) rfl), rfl, rfl, fun _ => rfl⟩
theorem gf_X7_52_r : rl_GR RX7 52 7 20 := ⟨RX7, TX7, 22, rfl, ginX7, by decide, (g_at 834 (by decide +kernel) rfl)⟩
theorem gf_X7_56 : rl_GF RX7 56 7 21 true (.array .long) := ⟨RX7, TX7, 22, tyX7, rfl, ginX7, tyX7_ok, nmX7, by decide, (g_at 835 (by decide +kernel) rfl), rfl, rfl, fun _ => rfl⟩
theorem gf_X7_56_r : rl_GR RX7 56 7 21 := ⟨RX7, TX7, 22, rfl, ginX7, by decide, (g_at 835 (by decide +kernel) rfl)⟩
theorem lk_L_17 : Cond.methodLink RL 17 yX7_puddle ∈ g_tbl := (g_at 881 (by decide +kernel) rfl)
theorem kc_X7_113 : Cond.constantLong RX7 113 (4 : Int64) ∈ g_tbl := (g_at 885 (by decide +kernel) rfl)
theorem lk_X7_59 : Cond.methodLink RX7 59 yX7_in ∈ g_tbl := (g_at 886 (by decide +kernel) rfl)
theorem kc_X7_115 : Cond.constantLong RX7 115 (7 : Int64) ∈ g_tbl := (g_at 889 (by decide +kernel) rfl)
theorem kc_X7_117 : Cond.constantLong RX7 117 (60 : Int64) ∈ g_tbl := (g_at 890 (by decide +kernel) rfl)
theorem lk_X7_119 : Cond.methodLink RX7 119 yX7_puddleComes ∈ g_tbl := (g_at 891 (by decide +kernel) rfl)
theorem lk_L_21 : Cond.methodLink RL 21 yX7_person ∈ g_tbl := (g_at 895 (by decide +kernel) rfl)
theorem kc_X7_122 : Cond.constantLong RX7 122 (20 : Int64) ∈ g_tbl := (g_at 899 (by decide +kernel) rfl)
theorem kc_X7_124 : Cond.constantLong RX7 124 (30 : Int64) ∈ g_tbl := (g_at 900 (by decide +kernel) rfl)
theorem lk_X7_126 : Cond.methodLink RX7 126 yX7_personComes ∈ g_tbl := (g_at 901 (by decide +kernel) rfl)
theorem lk_X7_91 : Cond.methodLink RX7 91 yX7_tells ∈ g_tbl := (g_at 905 (by decide +kernel) rfl)
theorem lk_L_26 : Cond.methodLink RL 26 yX7_show ∈ g_tbl := (g_at 909 (by decide +kernel) rfl)
theorem lk_X7_74 : Cond.methodLink RX7 74 yX7_isPuddle ∈ g_tbl := (g_at 913 (by decide +kernel) rfl)
theorem lk_X7_63 : Cond.methodLink RX7 63 yX7_ofPuddle ∈ g_tbl := (g_at 917 (by decide +kernel) rfl)
theorem lk_L_30 : Cond.methodLink RL 30 yX7_of ∈ g_tbl := (g_at 921 (by decide +kernel) rfl)
theorem lk_X7_84 : Cond.methodLink RX7 84 yX7_whoClaimed ∈ g_tbl := (g_at 925 (by decide +kernel) rfl)
theorem lk_X7_70 : Cond.methodLink RX7 70 yX7_claimed ∈ g_tbl := (g_at 929 (by decide +kernel) rfl)
theorem lk_X7_67 : Cond.methodLink RX7 67 yX7_ofPerson ∈ g_tbl := (g_at 933 (by decide +kernel) rfl)
theorem lk_X7_99 : Cond.methodLink RX7 99 yX7_less ∈ g_tbl := (g_at 937 (by decide +kernel) rfl)
theorem lk_X7_78 : Cond.methodLink RX7 78 yX7_deep ∈ g_tbl := (g_at 941 (by decide +kernel) rfl)
theorem lk_X7_81 : Cond.methodLink RX7 81 yX7_isDry ∈ g_tbl := (g_at 945 (by decide +kernel) rfl)
theorem lk_L_34 : Cond.methodLink RL 34 yX7_at ∈ g_tbl := (g_at 949 (by decide +kernel) rfl)
theorem lk_X7_129 : Cond.methodLink RX7 129 yX7_isPerson ∈ g_tbl := (g_at 953 (by decide +kernel) rfl)
theorem lk_X7_132 : Cond.methodLink RX7 132 yX7_fitsFor ∈ g_tbl := (g_at 957 (by decide +kernel) rfl)
theorem lk_X7_87 : Cond.methodLink RX7 87 yX7_fits ∈ g_tbl := (g_at 961 (by decide +kernel) rfl)
theorem lk_L_48 : Cond.methodLink RL 48 yX7_count ∈ g_tbl := (g_at 965 (by decide +kernel) rfl)
theorem lk_X7_135 : Cond.methodLink RX7 135 yX7_deepAll ∈ g_tbl := (g_at 969 (by decide +kernel) rfl)
theorem lk_X7_139 : Cond.methodLink RX7 139 yX7_dryOnes ∈ g_tbl := (g_at 973 (by decide +kernel) rfl)
theorem lk_X7_142 : Cond.methodLink RX7 142 yX7_servedNow ∈ g_tbl := (g_at 977 (by decide +kernel) rfl)
theorem lk_X7_145 : Cond.methodLink RX7 145 yX7_claimedOnes ∈ g_tbl := (g_at 981 (by decide +kernel) rfl)
theorem lk_L_39 : Cond.methodLink RL 39 yX7_type ∈ g_tbl := (g_at 985 (by decide +kernel) rfl)
theorem kc_X7_148 : Cond.constantLong RX7 148 (32 : Int64) ∈ g_tbl := (g_at 989 (by decide +kernel) rfl)
theorem kc_X7_150 : Cond.constantLong RX7 150 (126 : Int64) ∈ g_tbl := (g_at 990 (by decide +kernel) rfl)
theorem lk_L_44 : Cond.methodLink RL 44 yX7_read ∈ g_tbl := (g_at 991 (by decide +kernel) rfl)
theorem lk_X7_183 : Cond.methodLink RX7 183 yX7_puddlesRead ∈ g_tbl := (g_at 995 (by decide +kernel) rfl)
theorem lk_X7_162 : Cond.methodLink RX7 162 yX7_here ∈ g_tbl := (g_at 999 (by decide +kernel) rfl)
theorem lk_X7_165 : Cond.methodLink RX7 165 yX7_must ∈ g_tbl := (g_at 1003 (by decide +kernel) rfl)
theorem lk_X7_176 : Cond.methodLink RX7 176 yX7_digit ∈ g_tbl := (g_at 1007 (by decide +kernel) rfl)
theorem lk_X7_173 : Cond.methodLink RX7 173 yX7_number ∈ g_tbl := (g_at 1011 (by decide +kernel) rfl)
theorem kc_X7_169 : Cond.constantLong RX7 169 (48 : Int64) ∈ g_tbl := (g_at 1015 (by decide +kernel) rfl)
theorem kc_X7_171 : Cond.constantLong RX7 171 (57 : Int64) ∈ g_tbl := (g_at 1016 (by decide +kernel) rfl)
theorem lk_X7_186 : Cond.methodLink RX7 186 yX7_peopleRead ∈ g_tbl := (g_at 1017 (by decide +kernel) rfl)
theorem lk_X7_179 : Cond.methodLink RX7 179 yX7_numberBehind ∈ g_tbl := (g_at 1021 (by decide +kernel) rfl)
theorem lk_L_52 : Cond.methodLink RL 52 yX7_hours ∈ g_tbl := (g_at 1025 (by decide +kernel) rfl)
theorem kc_X7_189 : Cond.constantLong RX7 189 (40 : Int64) ∈ g_tbl := (g_at 1029 (by decide +kernel) rfl)
theorem lk_X7_191 : Cond.methodLink RX7 191 yX7_notes ∈ g_tbl := (g_at 1030 (by decide +kernel) rfl)
theorem lk_X7_106 : Cond.methodLink RX7 106 yX7_goesBy ∈ g_tbl := (g_at 1034 (by decide +kernel) rfl)
theorem lk_X7_95 : Cond.methodLink RX7 95 yX7_looks ∈ g_tbl := (g_at 1038 (by decide +kernel) rfl)
theorem lk_X7_102 : Cond.methodLink RX7 102 yX7_deeps ∈ g_tbl := (g_at 1042 (by decide +kernel) rfl)
theorem lk_L_56 : Cond.methodLink RL 56 yX7_rain ∈ g_tbl := (g_at 1046 (by decide +kernel) rfl)
theorem lk_X7_194 : Cond.methodLink RX7 194 yX7_rains ∈ g_tbl := (g_at 1050 (by decide +kernel) rfl)
theorem lk_L_60 : Cond.methodLink RL 60 yX7_drive ∈ g_tbl := (g_at 1054 (by decide +kernel) rfl)
theorem lk_L_64 : Cond.methodLink RL 64 yX7_send ∈ g_tbl := (g_at 1058 (by decide +kernel) rfl)
theorem lk_L_68 : Cond.methodLink RL 68 yX7_later ∈ g_tbl := (g_at 1062 (by decide +kernel) rfl)
theorem lk_L_72 : Cond.methodLink RL 72 yX7_drift ∈ g_tbl := (g_at 1066 (by decide +kernel) rfl)
theorem kc_X7_197 : Cond.constantLong RX7 197 (1103515245 : Int64) ∈ g_tbl := (g_at 1070 (by decide +kernel) rfl)
theorem kc_X7_199 : Cond.constantLong RX7 199 (12345 : Int64) ∈ g_tbl := (g_at 1071 (by decide +kernel) rfl)
theorem kc_X7_201 : Cond.constantLong RX7 201 (2147483647 : Int64) ∈ g_tbl := (g_at 1072 (by decide +kernel) rfl)
theorem kc_X7_203 : Cond.constant RX7 203 (65536 : Int32) ∈ g_tbl := (g_at 1073 (by decide +kernel) rfl)
theorem lk_L_76 : Cond.methodLink RL 76 yX7_undo ∈ g_tbl := (g_at 1074 (by decide +kernel) rfl)
theorem lk_L_80 : Cond.methodLink RL 80 yX7_seed ∈ g_tbl := (g_at 1078 (by decide +kernel) rfl)
theorem lk_L_84 : Cond.methodLink RL 84 yX7_ahead ∈ g_tbl := (g_at 1082 (by decide +kernel) rfl)
theorem lk_X7_204 : Cond.methodLink RX7 204 yX7_asides ∈ g_tbl := (g_at 1086 (by decide +kernel) rfl)
theorem lk_X7_207 : Cond.methodLink RX7 207 yX7_goesOn ∈ g_tbl := (g_at 1090 (by decide +kernel) rfl)
theorem lk_X7_210 : Cond.methodLink RX7 210 yX7_backs ∈ g_tbl := (g_at 1094 (by decide +kernel) rfl)
theorem lk_L_88 : Cond.methodLink RL 88 yX7_claims ∈ g_tbl := (g_at 1098 (by decide +kernel) rfl)
theorem lk_L_92 : Cond.methodLink RL 92 yX7_then ∈ g_tbl := (g_at 1102 (by decide +kernel) rfl)
theorem lk_L_96 : Cond.methodLink RL 96 yX7_served ∈ g_tbl := (g_at 1106 (by decide +kernel) rfl)
theorem lk_L_100 : Cond.methodLink RL 100 yX7_dries ∈ g_tbl := (g_at 1110 (by decide +kernel) rfl)
theorem lk_L_104 : Cond.methodLink RL 104 yX7_match ∈ g_tbl := (g_at 1114 (by decide +kernel) rfl)
theorem lk_L_108 : Cond.methodLink RL 108 yX7_latest ∈ g_tbl := (g_at 1118 (by decide +kernel) rfl)
theorem lk_L_112 : Cond.methodLink RL 112 yX7_order ∈ g_tbl := (g_at 1122 (by decide +kernel) rfl)
theorem lk_X7_213 : Cond.methodLink RX7 213 yX7_isOrder ∈ g_tbl := (g_at 1126 (by decide +kernel) rfl)
theorem lk_X7_216 : Cond.methodLink RX7 216 yX7_comesBy ∈ g_tbl := (g_at 1130 (by decide +kernel) rfl)
theorem lk_X7_219 : Cond.methodLink RX7 219 yX7_many ∈ g_tbl := (g_at 1134 (by decide +kernel) rfl)
theorem lk_L_116 : Cond.methodLink RL 116 yX7_wet ∈ g_tbl := (g_at 1137 (by decide +kernel) rfl)
theorem lk_L_120 : Cond.methodLink RL 120 yX7_matters ∈ g_tbl := (g_at 1141 (by decide +kernel) rfl)
theorem lk_L_124 : Cond.methodLink RL 124 yX7_sight ∈ g_tbl := (g_at 1145 (by decide +kernel) rfl)
theorem lk_L_128 : Cond.methodLink RL 128 yX7_carts ∈ g_tbl := (g_at 1149 (by decide +kernel) rfl)
theorem kc_X7_222 : Cond.constantLong RX7 222 (10 : Int64) ∈ g_tbl := (g_at 1153 (by decide +kernel) rfl)
theorem lk_L_132 : Cond.methodLink RL 132 yX7_image ∈ g_tbl := (g_at 1154 (by decide +kernel) rfl)
theorem lk_L_136 : Cond.methodLink RL 136 yX7_restore ∈ g_tbl := (g_at 1158 (by decide +kernel) rfl)
theorem lk_L_141 : Cond.methodLink RL 141 yX7_dipped ∈ g_tbl := (g_at 1162 (by decide +kernel) rfl)
theorem lk_X7_232 : Cond.methodLink RX7 232 yX7_isSheet ∈ g_tbl := (g_at 1166 (by decide +kernel) rfl)
theorem kc_X7_230 : Cond.constantLong RX7 230 (3 : Int64) ∈ g_tbl := (g_at 1169 (by decide +kernel) rfl)
theorem lk_X7_235 : Cond.methodLink RX7 235 yX7_isLane ∈ g_tbl := (g_at 1170 (by decide +kernel) rfl)
theorem kc_X7_238 : Cond.constantLong RX7 238 (8 : Int64) ∈ g_tbl := (g_at 1173 (by decide +kernel) rfl)
theorem kc_X7_240 : Cond.constantLong RX7 240 (2 : Int64) ∈ g_tbl := (g_at 1174 (by decide +kernel) rfl)
theorem lk_X7_242 : Cond.methodLink RX7 242 yX7_why ∈ g_tbl := (g_at 1175 (by decide +kernel) rfl)
theorem lk_X7_245 : Cond.methodLink RX7 245 yX7_isSo ∈ g_tbl := (g_at 1179 (by decide +kernel) rfl)
theorem lk_L_146 : Cond.methodLink RL 146 yX7_film ∈ g_tbl := (g_at 1183 (by decide +kernel) rfl)
theorem kc_X7_249 : Cond.constantLong RX7 249 (24 : Int64) ∈ g_tbl := (g_at 1187 (by decide +kernel) rfl)
theorem lk_L_150 : Cond.methodLink RL 150 yX7_sheet ∈ g_tbl := (g_at 1188 (by decide +kernel) rfl)
theorem lk_L_154 : Cond.methodLink RL 154 yX7_drop ∈ g_tbl := (g_at 1192 (by decide +kernel) rfl)
theorem lk_L_161 : Cond.methodLink RL 161 yX7_item ∈ g_tbl := (g_at 1196 (by decide +kernel) rfl)
theorem lk_L_165 : Cond.methodLink RL 165 yX7_copy ∈ g_tbl := (g_at 1200 (by decide +kernel) rfl)
theorem kc_L_155 : Cond.constantLong RL 155 (4294967295 : Int64) ∈ g_tbl := (g_at 1204 (by decide +kernel) rfl)
