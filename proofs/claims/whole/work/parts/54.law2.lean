theorem lw_neg : ∀ L, L < 7 → nI L - nI 7 < 0 := by decide +kernel
set_option maxHeartbeats 4000000 in
set_option maxRecDepth 100000 in
theorem lw_head {cx : Cx} {l : Launch} {L : Nat} {xs : Nat → Int32} {Q : Option Value → Nat → Wd → Prop} (hc : cx = lw_cx l L xs Q) {i : Nat} {σ : Wd} (hL : L ≤ 448) (hi : i ≤ 1000) (kt : L < i + 7 → R cx 59 1711 59 σ 1348 (lw_ls i) []) (kf : i + 7 ≤ L → R cx 59 1711 59 σ 27 (lw_ls i) []) : R cx 59 1711 59 σ 18 (lw_ls i) [] := by
  refine R.iload_n (j := 3) (i := 3) hc rfl rfl dL_law_18 ?_
  refine R.aload_n (j := 0) (i := 0) hc rfl rfl dL_law_19 ?_
  refine R.slen hc dL_law_20 ?_
  refine R.bipush hc bp_7 dL_law_21 ?_
  by_cases h7 : 7 ≤ L
  · refine R.isubN (a := L) (b := 7) hc h7 dL_law_23 ?_
    refine R.icmpN_gt (tgt := 1348) (a := i) (b := L - 7) hc dL_law_24 (by decide) (by omega) (by omega) (fun q => kt (by omega)) (fun q => kf (by omega))
  · refine R.isub (x := nI L) (z := nI 7) hc dL_law_23 ?_
    refine R.icmp_gt (tgt := 1348) hc dL_law_24 (by decide) (fun q => kt (by omega)) (fun q => absurd ?_ q)
    exact Int32.lt_of_lt_of_le (lw_neg L (by omega)) (Int32.not_lt.mp (nI_pos (by omega)))
set_option maxHeartbeats 4000000 in
set_option maxRecDepth 100000 in
theorem lw_body {cx : Cx} {l : Launch} {L : Nat} {xs : Nat → Int32} {Q : Option Value → Nat → Wd → Prop} (hc : cx = lw_cx l L xs Q) {i : Nat} {σ : Wd} (hL : L ≤ 448) (hi : i + 7 ≤ L) (hI : LI σ) (nxt : ∀ σ', LI σ' → R cx 59 1711 59 σ' 1342 (lw_ls i) []) : R cx 59 1711 59 σ 27 (lw_ls i) [] := by
  refine R.aload_n (j := 0) (i := 0) hc rfl rfl dL_law_27 ?_
  refine R.iload_n (j := 3) (i := 3) hc rfl rfl dL_law_28 ?_
  refine R.sald hc dL_law_29 (show _ < L by omega) (show L < 2 ^ 31 by omega) ?_
  refine R.bipush hc bp_63 dL_law_30 ?_
  refine R.iand hc dL_law_32 ?_
  obtain ⟨c, hc64, e⟩ := and63 (xs i)
  refine R.top e ?_
  rcases (show c = 0 ∨ c = 1 ∨ c = 2 ∨ c = 3 ∨ c = 4 ∨ c = 5 ∨ c = 6 ∨ c = 7 ∨ c = 8 ∨ c = 9 ∨ c = 10 ∨ c = 11 ∨ c = 12 ∨ c = 13 ∨ c = 14 ∨ c = 15 ∨ c = 16 ∨ c = 17 ∨ c = 18 ∨ c = 19 ∨ c = 20 ∨ c = 21 ∨ c = 22 ∨ c = 23 ∨ c = 24 ∨ c = 25 ∨ c = 26 ∨ c = 27 ∨ c = 28 ∨ c = 29 ∨ c = 30 ∨ c = 31 ∨ c = 32 ∨ c = 33 ∨ c = 34 ∨ c = 35 ∨ 36 ≤ c by omega) with rfl | rfl | rfl | rfl | rfl | rfl | rfl | rfl | rfl | rfl | rfl | rfl | rfl | rfl | rfl | rfl | rfl | rfl | rfl | rfl | rfl | rfl | rfl | rfl | rfl | rfl | rfl | rfl | rfl | rfl | rfl | rfl | rfl | rfl | rfl | rfl | h
  · exact R.tabIn (tgt := 192) (off := 159) hc dL_law_33 (by decide +kernel) (by decide +kernel) (by decide +kernel) (by decide) (lw_puddle hc hi hL hI nxt)
  · exact R.tabIn (tgt := 235) (off := 202) hc dL_law_33 (by decide +kernel) (by decide +kernel) (by decide +kernel) (by decide) (lw_person hc hi hL hI nxt)
  · exact R.tabIn (tgt := 278) (off := 245) hc dL_law_33 (by decide +kernel) (by decide +kernel) (by decide +kernel) (by decide) (lw_show hc hi hL hI nxt)
  · exact R.tabIn (tgt := 311) (off := 278) hc dL_law_33 (by decide +kernel) (by decide +kernel) (by decide +kernel) (by decide) (lw_of hc hi hL hI nxt)
  · exact R.tabIn (tgt := 344) (off := 311) hc dL_law_33 (by decide +kernel) (by decide +kernel) (by decide +kernel) (by decide) (lw_at hc hi hL hI nxt)
  · exact R.tabIn (tgt := 377) (off := 344) hc dL_law_33 (by decide +kernel) (by decide +kernel) (by decide +kernel) (by decide) (lw_type hc hi hL hI nxt)
  · exact R.tabIn (tgt := 400) (off := 367) hc dL_law_33 (by decide +kernel) (by decide +kernel) (by decide +kernel) (by decide) (lw_read hc hi hL hI nxt)
  · exact R.tabIn (tgt := 413) (off := 380) hc dL_law_33 (by decide +kernel) (by decide +kernel) (by decide +kernel) (by decide) (lw_count hc hi hL hI nxt)
  · exact R.tabIn (tgt := 436) (off := 403) hc dL_law_33 (by decide +kernel) (by decide +kernel) (by decide +kernel) (by decide) (lw_hours hc hi hL hI nxt)
  · exact R.tabIn (tgt := 459) (off := 426) hc dL_law_33 (by decide +kernel) (by decide +kernel) (by decide +kernel) (by decide) (lw_rain hc hi hL hI nxt)
  · exact R.tabIn (tgt := 482) (off := 449) hc dL_law_33 (by decide +kernel) (by decide +kernel) (by decide +kernel) (by decide) (lw_drive hc hi hL hI nxt)
  · exact R.tabIn (tgt := 505) (off := 472) hc dL_law_33 (by decide +kernel) (by decide +kernel) (by decide +kernel) (by decide) (lw_send hc hi hL hI nxt)
  · exact R.tabIn (tgt := 528) (off := 495) hc dL_law_33 (by decide +kernel) (by decide +kernel) (by decide +kernel) (by decide) (lw_later hc hi hL hI nxt)
  · exact R.tabIn (tgt := 561) (off := 528) hc dL_law_33 (by decide +kernel) (by decide +kernel) (by decide +kernel) (by decide) (lw_drift hc hi hL hI nxt)
  · exact R.tabIn (tgt := 584) (off := 551) hc dL_law_33 (by decide +kernel) (by decide +kernel) (by decide +kernel) (by decide) (lw_undo hc hi hL hI nxt)
  · exact R.tabIn (tgt := 597) (off := 564) hc dL_law_33 (by decide +kernel) (by decide +kernel) (by decide +kernel) (by decide) (lw_seed hc hi hL hI nxt)
  · exact R.tabIn (tgt := 620) (off := 587) hc dL_law_33 (by decide +kernel) (by decide +kernel) (by decide +kernel) (by decide) (lw_ahead hc hi hL hI nxt)
  · exact R.tabIn (tgt := 653) (off := 620) hc dL_law_33 (by decide +kernel) (by decide +kernel) (by decide +kernel) (by decide) (lw_claims hc hi hL hI nxt)
  · exact R.tabIn (tgt := 686) (off := 653) hc dL_law_33 (by decide +kernel) (by decide +kernel) (by decide +kernel) (by decide) (lw_then hc hi hL hI nxt)
  · exact R.tabIn (tgt := 709) (off := 676) hc dL_law_33 (by decide +kernel) (by decide +kernel) (by decide +kernel) (by decide) (lw_served hc hi hL hI nxt)
  · exact R.tabIn (tgt := 732) (off := 699) hc dL_law_33 (by decide +kernel) (by decide +kernel) (by decide +kernel) (by decide) (lw_dries hc hi hL hI nxt)
  · exact R.tabIn (tgt := 755) (off := 722) hc dL_law_33 (by decide +kernel) (by decide +kernel) (by decide +kernel) (by decide) (lw_match hc hi hL hI nxt)
  · exact R.tabIn (tgt := 768) (off := 735) hc dL_law_33 (by decide +kernel) (by decide +kernel) (by decide +kernel) (by decide) (lw_latest hc hi hL hI nxt)
  · exact R.tabIn (tgt := 791) (off := 758) hc dL_law_33 (by decide +kernel) (by decide +kernel) (by decide +kernel) (by decide) (lw_order hc hi hL hI nxt)
  · exact R.tabIn (tgt := 824) (off := 791) hc dL_law_33 (by decide +kernel) (by decide +kernel) (by decide +kernel) (by decide) (lw_wet hc hi hL hI nxt)
  · exact R.tabIn (tgt := 847) (off := 814) hc dL_law_33 (by decide +kernel) (by decide +kernel) (by decide +kernel) (by decide) (lw_matters hc hi hL hI nxt)
  · exact R.tabIn (tgt := 880) (off := 847) hc dL_law_33 (by decide +kernel) (by decide +kernel) (by decide +kernel) (by decide) (lw_sight hc hi hL hI nxt)
  · exact R.tabIn (tgt := 923) (off := 890) hc dL_law_33 (by decide +kernel) (by decide +kernel) (by decide +kernel) (by decide) (lw_carts hc hi hL hI nxt)
  · exact R.tabIn (tgt := 966) (off := 933) hc dL_law_33 (by decide +kernel) (by decide +kernel) (by decide +kernel) (by decide) (lw_image hc hi hL hI nxt)
  · exact R.tabIn (tgt := 979) (off := 946) hc dL_law_33 (by decide +kernel) (by decide +kernel) (by decide +kernel) (by decide) (lw_restore hc hi hL hI nxt)
  · exact R.tabIn (tgt := 992) (off := 959) hc dL_law_33 (by decide +kernel) (by decide +kernel) (by decide +kernel) (by decide) (lw_dipped hc hi hL hI nxt)
  · exact R.tabIn (tgt := 1067) (off := 1034) hc dL_law_33 (by decide +kernel) (by decide +kernel) (by decide +kernel) (by decide) (lw_film hc hi hL hI nxt)
  · exact R.tabIn (tgt := 1130) (off := 1097) hc dL_law_33 (by decide +kernel) (by decide +kernel) (by decide +kernel) (by decide) (lw_sheet hc hi hL hI nxt)
  · exact R.tabIn (tgt := 1173) (off := 1140) hc dL_law_33 (by decide +kernel) (by decide +kernel) (by decide +kernel) (by decide) (lw_drop hc hi hL hI nxt)
  · exact R.tabIn (tgt := 1196) (off := 1163) hc dL_law_33 (by decide +kernel) (by decide +kernel) (by decide +kernel) (by decide) (lw_item hc hi hL hI nxt)
  · exact R.tabIn (tgt := 1279) (off := 1246) hc dL_law_33 (by decide +kernel) (by decide +kernel) (by decide +kernel) (by decide) (lw_copy hc hi hL hI nxt)
  · refine R.tabOut (tgt := 1342) hc dL_law_33 (Or.inr ?_) (by decide) (nxt σ hI)
    rw [nI_toInt (by omega)]
    omega
set_option maxHeartbeats 4000000 in
set_option maxRecDepth 100000 in
theorem lw_loop {cx : Cx} {l : Launch} {L : Nat} {xs : Nat → Int32} {Q : Option Value → Nat → Wd → Prop} (hc : cx = lw_cx l L xs Q) (hL : L ≤ 448) (hQ : ∀ n σ, Q (some (.int (nI 1))) n σ) : ∀ (j i : Nat) (σ : Wd), L ≤ i + j → i ≤ 500 → LI σ → R cx 59 1711 59 σ 18 (lw_ls i) [] := by
  have ex : ∀ (i : Nat) (σ : Wd), R cx 59 1711 59 σ 1348 (lw_ls i) [] := by
    intro i σ
    refine R.iconst hc ic_1 dL_law_1348 ?_
    exact R.bret (c := true) hc rfl dL_law_1349 rfl (hQ _ _)
  intro j
  induction j with
  | zero =>
    intro i σ h hi hI
    exact lw_head hc hL (by omega) (fun _ => ex i σ) (fun h9 => absurd h9 (by omega))
  | succ j ih =>
    intro i σ h hi hI
    refine lw_head hc hL (by omega) (fun _ => ex i σ) (fun h9 => ?_)
    refine lw_body hc hL h9 hI (fun σ1 hI1 => ?_)
    refine R.iinc3 hc dL_law_1342 (iiNk _ 7) (by decide) rfl ?_
    refine R.goto (tgt := 18) hc dL_law_1345 (by decide) ?_
    exact ih (i + 7) σ1 (by omega) (by omega) hI1
set_option maxHeartbeats 4000000 in
set_option maxRecDepth 100000 in
theorem lw_run {cx : Cx} {l : Launch} {L : Nat} {xs : Nat → Int32} {Q : Option Value → Nat → Wd → Prop} (hc : cx = lw_cx l L xs Q) (hL : L ≤ 448) (hQ : ∀ n σ, Q (some (.int (nI 1))) n σ) : R cx 0 0 0 (fun _ => none) 0 [some (.ref 1000000), none, none, none] [] := by
  refine R.nwO (n := 0) (ci := 6) (T := TX6) (N := 10) hc fdX6 dL_law_0 tyX6_ok ginX6 nw_X6 rfl dfX6 ⟨Nat.le_of_ble_eq_true rfl, Nat.le_of_ble_eq_true rfl⟩ rfl (by omega) (fun σ hX hE => ?_)
  refine R.dup hc rfl dL_law_3 ?_
  refine R.cI (n2 := 42) hc m_X6_init lk_L_9 dL_law_4 (c_X6_init l 0 (L, xs) hX) (by omega) ⟨Nat.le_of_ble_eq_true rfl, Nat.le_of_ble_eq_true rfl⟩ rfl (Nat.le_of_ble_eq_true rfl) (fun σ hX => ?_)
  have hC := hX.1
  refine R.astn1 hc dL_law_7 (by decide) rfl ?_
  refine R.nwO (n := 42) (ci := 7) (T := TX7) (N := 22) hc fdX7 dL_law_8 tyX7_ok ginX7 nw_X7 rfl dfX7 ⟨Nat.le_of_ble_eq_true rfl, Nat.le_of_ble_eq_true rfl⟩ rfl (by omega) (fun σ hX hE => ?_)
  have hC := hC.ag (fun j hj => hE j (by omega))
  refine R.dup hc rfl dL_law_11 ?_
  refine R.cI (n2 := 59) hc m_X7_init lk_L_12 dL_law_12 (c_X7_init l 0 (L, xs) hX) (by omega) ⟨Nat.le_of_ble_eq_true rfl, Nat.le_of_ble_eq_true rfl⟩ rfl (Nat.le_of_ble_eq_true rfl) (fun σ hX => ?_)
  obtain ⟨hR, hE⟩ := hX
  refine R.astn2 hc dL_law_15 (by decide) rfl ?_
  refine R.iconst hc ic_0 dL_law_16 ?_
  refine R.istn3 hc dL_law_17 (by decide) rfl ?_
  exact lw_loop hc hL hQ L 0 σ (by omega) (by omega) (LI.of hC hR hE WI.new)
