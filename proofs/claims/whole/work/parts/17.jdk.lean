theorem rl_e1 (E : EE) : rl_tv E (.ref 1000001) = .ref (E.2 1) := by simp [rl_tv, rl_ad]
theorem rl_e2 (E : EE) : rl_tv E (.ref 1000002) = .ref (E.2 2) := by simp [rl_tv, rl_ad]
theorem fl_J0_38 : Cond.fieldLink "java/lang/String" 38 "java/lang/String" "COMPACT_STRINGS" "Z" ∈ g_tbl := g_at 414 (by decide +kernel) rfl
theorem fl_J0_15 : Cond.fieldLink "java/lang/String" 15 "java/lang/String" "coder" "B" ∈ g_tbl := g_at 1205 (by decide +kernel) rfl
theorem fl_J0_9 : Cond.fieldLink "java/lang/String" 9 "java/lang/String" "value" "[B" ∈ g_tbl := g_at 1206 (by decide +kernel) rfl
def pkN (i : Nat) : Nat := [112, 115, 107, 119, 103].getD i 0
section RX
variable {cx : Cx} {l : Launch} {y : MethodName} {cc : ByteArray} {nL : Nat} {ret : Option FieldType} {d mc ms n0 : Nat} {X : Nat × (Nat → Int32)} {Q : Option Value → Nat → Wd → Prop} {kc ks n : Nat} {σ : Wd} {pc : Nat} {ls : List (Option Value)} {st : List Value}
theorem R.ldcS (hc : cx = (l, y, cc, nL, ret, d, mc, ms, n0, X, Q)) (hy : y.cls = "PuddleClaims$Tape") (hd : decode cc pc = .ok (.ldc 63, 2)) (k : R cx kc ks n σ (pc + 2) ls (.ref 1000001 :: st)) : R cx kc ks n σ pc ls st := by
  subst hc
  intro p e s m args below meth c dC dI dA E H locs la F hH hS hl
  have kk := k p e s m args below meth c dC dI dA E H locs la F hH hS hl
  rw [List.map_cons, rl_e1] at kk
  exact va_ldcS F.1 F.2.1 F.2.2.2.2.1 (tx := "pskwg") (by show vk_R y.cls 63 _ _ _; rw [hy]; exact F.2.2.2.2.2.2.2.2.1.2.1) hd kk
theorem R.getC (hc : cx = (l, y, cc, nL, ret, d, mc, ms, n0, X, Q)) (hy : y.cls = "java/lang/String") (hd : decode cc pc = .ok (.getfield 15, 3)) (k : R cx kc ks n σ (pc + 3) ls (.int (nI 0) :: st)) : R cx kc ks n σ pc ls (.ref 1000001 :: st) := by
  subst hc
  intro p e s m args below meth c dC dI dA E H locs la F hH hS hl
  have kk := k p e s m args below meth c dC dI dA E H locs la F hH hS hl
  rw [List.map_cons, rl_e1]
  exact vk_getf F.1 F.2.1 ((F.2.2.2.2.2.2.2.2.1.2.2.1.1 0 (by omega)).2.1) hS F.2.2.2.2.1 (by show (Cond.fieldLink y.cls 15 _ _ _).before _ _ = true; rw [hy]; exact F.2.2.2.2.2.1 _ fl_J0_15) (fun _ h => h) hd kk
theorem R.getV (hc : cx = (l, y, cc, nL, ret, d, mc, ms, n0, X, Q)) (hy : y.cls = "java/lang/String") (hd : decode cc pc = .ok (.getfield 9, 3)) (k : R cx kc ks n σ (pc + 3) ls (.ref 1000002 :: st)) : R cx kc ks n σ pc ls (.ref 1000001 :: st) := by
  subst hc
  intro p e s m args below meth c dC dI dA E H locs la F hH hS hl
  have kk := k p e s m args below meth c dC dI dA E H locs la F hH hS hl
  rw [List.map_cons, rl_e2] at kk
  rw [List.map_cons, rl_e1]
  exact vk_getf F.1 F.2.1 ((F.2.2.2.2.2.2.2.2.1.2.2.1.1 0 (by omega)).2.2.1) hS F.2.2.2.2.1 (by show (Cond.fieldLink y.cls 9 _ _ _).before _ _ = true; rw [hy]; exact F.2.2.2.2.2.1 _ fl_J0_9) (fun _ h => h) hd kk
theorem R.getsC (hc : cx = (l, y, cc, nL, ret, d, mc, ms, n0, X, Q)) (hy : y.cls = "java/lang/String") (hd : decode cc pc = .ok (.getstatic 38, 3)) (k : R cx kc ks n σ (pc + 3) ls (.int (nI 1) :: st)) : R cx kc ks n σ pc ls st := by
  subst hc
  intro p e s m args below meth c dC dI dA E H locs la F hH hS hl
  have kk := k p e s m args below meth c dC dI dA E H locs la F hH hS hl
  exact va_gets F.1 F.2.1 F.2.2.2.2.2.2.2.2.1.1 hS F.2.2.2.2.1 (by show (Cond.fieldLink y.cls 38 _ _ _).before _ _ = true; rw [hy]; exact F.2.2.2.2.2.1 _ fl_J0_38) (fun _ h => h) hd kk
theorem R.tlen (hc : cx = (l, y, cc, nL, ret, d, mc, ms, n0, X, Q)) (hd : decode cc pc = .ok (.arraylength, 1)) (k : R cx kc ks n σ (pc + 1) ls (.int (nI 5) :: st)) : R cx kc ks n σ pc ls (.ref 1000002 :: st) := by
  subst hc
  intro p e s m args below meth c dC dI dA E H locs la F hH hS hl
  have kk := k p e s m args below meth c dC dI dA E H locs la F hH hS hl
  rw [List.map_cons, rl_e2]
  exact va_tlen F.1 F.2.1 ((F.2.2.2.2.2.2.2.2.1.2.2.1.1 0 (by omega)).2.2.2) hS rfl hd kk
theorem R.tb (hc : cx = (l, y, cc, nL, ret, d, mc, ms, n0, X, Q)) {j : Nat} (hj : j < 5) (hd : decode cc pc = .ok (.baload, 1)) (k : R cx kc ks n σ (pc + 1) ls (.int (nI (pkN j)) :: st)) : R cx kc ks n σ pc ls (.int (nI j) :: .ref 1000002 :: st) := by
  subst hc
  intro p e s m args below meth c dC dI dA E H locs la F hH hS hl
  have kk := k p e s m args below meth c dC dI dA E H locs la F hH hS hl
  rw [List.map_cons, List.map_cons, rl_e2]
  refine va_tb F.1 F.2.1 ((F.2.2.2.2.2.2.2.2.1.2.2.1.1 0 (by omega)).2.2.2) hS (vp_in_nI hj (by decide)) ?_ hd kk
  rw [nI_clamp (by omega)]
  rcases (by omega : j = 0 ∨ j = 1 ∨ j = 2 ∨ j = 3 ∨ j = 4) with rfl | rfl | rfl | rfl | rfl <;> rfl
theorem R.cXr (hc : cx = (l, y, cc, nL, ret, d, mc, ms, n0, X, Q)) {y' : MethodName} {cc' : ByteArray} {nL' : Nat} {ret' : Option FieldType} {d' k9 idx : Nat} {As rest : List Value} {r : Int32} (hM : rl_MV y' cc' nL' ret' k9) (hL : Cond.methodLink y.cls idx y' ∈ g_tbl) (hy : y'.cls = "java/lang/String") (hd : decode cc pc = .ok (.invokevirtual idx, 3)) (hC : CN l y' cc' nL' ret' d' X n (.ref 1000001 :: As) σ (fun v σ' => v = some (.int r) ∧ σ' = σ)) (hst : st = As.reverse ++ .ref 1000001 :: rest) (hk : As.length = k9) (hdd : d' + 1 ≤ d) (hkm : kc ≤ mc ∧ ks ≤ ms) (hcat : (rest.map fun v => v.category).sum ≤ 8) (kk : R cx kc ks n σ (pc + 3) ls (.int r :: rest)) : R cx kc ks n σ pc ls st := by
  subst hst
  subst hc
  intro p e s m args below meth c dC dI dA E H locs la F hH hS hl
  obtain ⟨m1, m2, m3, m4, m5, m6⟩ := hM
  have hpre := rl_pre (av := .ref 1000001 :: As) (mc' := 0) hH F.2.2.2.2.2.2.2.1 F.2.2.2.2.2.2.2.2.1 F.2.2.2.2.2.2.2.2.2.1 hS (Or.inl rfl)
  have hrv := vk_recv (i := 0) (F.2.2.2.2.2.2.2.2.1.2.2.1) (by omega) hS
  rw [← hy] at hrv
  refine rl_back (rest0 := rest.map (rl_tv E)) (va_runV (C := y'.cls) (bytes := cc') (maxL := nL') (ret := ret') (ws := .code y' cc' nL' ret' :: g_tbl) (Ts := g_tbl) (cc := cc) (nL := nL) (own := y.cls) (As := As.map (rl_tv E)) (b := E.2 1) (n := k9) ⟨F.1, F.2.1, F.2.2.2.1, F.2.2.2.2.1, F.2.2.2.2.2.1⟩ (hC dC dI dA E) (cwV (ws' := g_tbl) k9 F.2.2.2.2.2.1 (by unfold wsV; exact rl_words m4 (fun w hw => by simp only [List.mem_cons, List.not_mem_nil, or_false] at hw; rcases hw with rfl | rfl | rfl | rfl; exact hL; exact m1; exact m2; exact m3)) rfl rfl rfl ⟨rfl, m5⟩ ⟨hdd, by show 8 + (nL' + 11) + 64 * d' ≤ 64 * d; omega⟩) ⟨hpre.1, hrv, fun U hU hW => by have := hpre.2 U hU hW; rw [List.map_cons, rl_e1] at this; rw [List.map_cons, rl_e1]; exact this⟩ rfl (by rw [List.length_map]; exact hk) hl.1 (by simp [rl_e1]) (lv_room (by rw [rl_cats]; exact hcat)) hd hkm) hS (fun v n' σ' H1 locs1 hq hH1 hS1 => ?_)
  obtain ⟨rfl, rfl, rfl⟩ := hq
  rw [rl_toList]
  exact kk p e s m args below meth c dC dI dA E H1 locs1 la F hH1 hS1 hl
end RX
set_option maxHeartbeats 4000000 in
set_option maxRecDepth 100000 in
theorem c_coder (l : Launch) (d : Nat) (X : Nat × (Nat → Int32)) (n : Nat) {σ : Wd}  : CN l yJ0_coder_7d493 cJ0_coder_7d493 1 (some .byte) (d) X n [.ref 1000001] σ (fun v σ' => v = some (.int (nI 0)) ∧ σ' = σ) := by
  refine CN.of (by decide) [some (.ref 1000001)] (fun _ => Nat.le_of_ble_eq_true rfl) (fun _ => rfl) (fun cx hc => ?_)
  refine R.getsC hc rfl dJ0_coder_7d493_0 ?_
  refine R.ifN_eq (tgt := 13) hc dJ0_coder_7d493_3 (by decide) (by decide) (fun q => absurd q (by decide)) (fun _ => ?_)
  refine R.aload_n (j := 0) (i := 0) hc rfl rfl dJ0_coder_7d493_6 ?_
  refine R.getC hc rfl dJ0_coder_7d493_7 ?_
  refine R.goto (tgt := 14) hc dJ0_coder_7d493_10 (by decide) ?_
  exact R.zret hc rfl rfl dJ0_coder_7d493_14 ⟨rfl, rfl, rfl⟩
set_option maxHeartbeats 4000000 in
set_option maxRecDepth 100000 in
theorem c_isLatin1 (l : Launch) (d : Nat) (X : Nat × (Nat → Int32)) (n : Nat) {σ : Wd}  : CN l yJ0_isLatin1_aae02 cJ0_isLatin1_aae02 1 (some .boolean) (d) X n [.ref 1000001] σ (fun v σ' => v = some (.int (b2 true)) ∧ σ' = σ) := by
  refine CN.of (by decide) [some (.ref 1000001)] (fun _ => Nat.le_of_ble_eq_true rfl) (fun _ => rfl) (fun cx hc => ?_)
  refine R.getsC hc rfl dJ0_isLatin1_aae02_0 ?_
  refine R.ifN_eq (tgt := 17) hc dJ0_isLatin1_aae02_3 (by decide) (by decide) (fun q => absurd q (by decide)) (fun _ => ?_)
  refine R.aload_n (j := 0) (i := 0) hc rfl rfl dJ0_isLatin1_aae02_6 ?_
  refine R.getC hc rfl dJ0_isLatin1_aae02_7 ?_
  refine R.ifN_ne (tgt := 17) hc dJ0_isLatin1_aae02_10 (by decide) (by decide) (fun q => absurd rfl q) (fun _ => ?_)
  refine R.iconst hc ic_1 dJ0_isLatin1_aae02_13 ?_
  refine R.goto (tgt := 18) hc dJ0_isLatin1_aae02_14 (by decide) ?_
  exact R.bret (c := true) hc rfl dJ0_isLatin1_aae02_18 rfl ⟨rfl, rfl, rfl⟩
set_option maxHeartbeats 4000000 in
set_option maxRecDepth 100000 in
theorem c_length (l : Launch) (d : Nat) (X : Nat × (Nat → Int32)) (n : Nat) {σ : Wd}  : CN l yJ0_length_8abf5 cJ0_length_8abf5 1 (some .int) ((d + 1)) X n [.ref 1000001] σ (fun v σ' => v = some (.int (nI 5)) ∧ σ' = σ) := by
  refine CN.of (by decide) [some (.ref 1000001)] (fun _ => Nat.le_of_ble_eq_true rfl) (fun _ => rfl) (fun cx hc => ?_)
  refine R.aload_n (j := 0) (i := 0) hc rfl rfl dJ0_length_8abf5_0 ?_
  refine R.getV hc rfl dJ0_length_8abf5_1 ?_
  refine R.tlen hc dJ0_length_8abf5_4 ?_
  refine R.aload_n (j := 0) (i := 0) hc rfl rfl dJ0_length_8abf5_5 ?_
  refine R.cXr hc m_J0_coder_7d493 lk_J0_335 rfl dJ0_length_8abf5_6 (c_coder l d X n) rfl rfl (by omega) ⟨Nat.le_refl _, Nat.le_refl _⟩ (Nat.le_of_ble_eq_true rfl) ?_
  refine R.ishrN hc (by omega) (by decide) dJ0_length_8abf5_9 ?_
  exact R.iret hc rfl dJ0_length_8abf5_10 ⟨rfl, rfl, rfl⟩
set_option maxHeartbeats 4000000 in
set_option maxRecDepth 100000 in
theorem c_canEncode (l : Launch) (d : Nat) (X : Nat × (Nat → Int32)) (n : Nat) {σ : Wd} {c : Nat} (hcc : c < 128) : CN l yJ1_canEncode_9a6ad cJ1_canEncode_9a6ad 1 (some .boolean) (d) X n [.int (nI c)] σ (fun v σ' => v = some (.int (b2 true)) ∧ σ' = σ) := by
  refine CN.of (by decide) [some (.int (nI c))] (fun _ => Nat.le_of_ble_eq_true rfl) (fun _ => rfl) (fun cx hc => ?_)
  refine R.iload_n (j := 0) (i := 0) hc rfl rfl dJ1_canEncode_9a6ad_0 ?_
  refine R.ifN_lt (tgt := 15) hc dJ1_canEncode_9a6ad_1 (by decide) (by omega) ?_
  refine R.iload_n (j := 0) (i := 0) hc rfl rfl dJ1_canEncode_9a6ad_4 ?_
  refine R.sipush hc sp_255 dJ1_canEncode_9a6ad_5 ?_
  refine R.icmpN_gt (tgt := 15) hc dJ1_canEncode_9a6ad_8 (by decide) (by omega) (by omega) (fun q => absurd q (by omega)) (fun _ => ?_)
  refine R.iconst hc ic_1 dJ1_canEncode_9a6ad_11 ?_
  refine R.goto (tgt := 16) hc dJ1_canEncode_9a6ad_12 (by decide) ?_
  exact R.bret (c := true) hc rfl dJ1_canEncode_9a6ad_16 rfl ⟨rfl, rfl, rfl⟩
/-- which kind a letter is, from place i on -/
def kdF : Nat → Nat → Nat → Int32
  | 0, _, _ => -1
  | j + 1, i, c => if pkN i = c then nI i else kdF j (i + 1) c
/-- 0, or the kind and 1 -/
def kdN (c : Nat) : Nat := if c = 112 then 1 else if c = 115 then 2 else if c = 107 then 3 else if c = 119 then 4 else if c = 103 then 5 else 0
theorem i2b_nI : ∀ c, c < 128 → (nI c).toInt8.toInt32 = nI c := by decide +kernel
theorem pkN_lt (i : Nat) : pkN i < 128 := by
  by_cases h : i < 5
  · rcases (by omega : i = 0 ∨ i = 1 ∨ i = 2 ∨ i = 3 ∨ i = 4) with rfl | rfl | rfl | rfl | rfl <;> decide
  · simp [pkN, List.getD, show 5 ≤ i by omega]
set_option maxHeartbeats 4000000 in
set_option maxRecDepth 100000 in
theorem c_indexOfChar (l : Launch) (d : Nat) (X : Nat × (Nat → Int32)) (n : Nat) {σ : Wd} {c : Nat} (hcc : c < 128) : CN l yJ1_indexOfChar_4cfef cJ1_indexOfChar_4cfef 6 (some .int) (d) X n [.ref 1000002, .int (nI c), .int (nI 0), .int (nI 5)] σ (fun v σ' => v = some (.int (kdF 5 0 c)) ∧ σ' = σ) := by
  refine CN.of (by decide) [some (.ref 1000002), some (.int (nI c)), some (.int (nI 0)), some (.int (nI 5)), none, none] (fun _ => Nat.le_of_ble_eq_true rfl) (fun _ => rfl) (fun cx hc => ?_)
  refine R.iload_n (j := 1) (i := 1) hc rfl rfl dJ1_indexOfChar_4cfef_0 ?_
  refine R.i2b hc dJ1_indexOfChar_4cfef_1 ?_
  rw [i2b_nI c hcc]
  refine R.ist4 hc dJ1_indexOfChar_4cfef_2 (by decide) rfl ?_
  refine R.iload_n (j := 2) (i := 2) hc rfl rfl dJ1_indexOfChar_4cfef_4 ?_
  refine R.ist5 hc dJ1_indexOfChar_4cfef_5 (by decide) rfl ?_
  have key : ∀ j i, i + j = 5 → kdF j i c = kdF 5 0 c → R cx 0 0 n σ 7 [some (.ref 1000002), some (.int (nI c)), some (.int (nI 0)), some (.int (nI 5)), some (.int (nI c)), some (.int (nI i))] [] := by
    intro j
    induction j with
    | zero =>
      intro i hi e
      refine R.iload (i := 5) hc rfl dJ1_indexOfChar_4cfef_7 ?_
      refine R.iload_n (j := 3) (i := 3) hc rfl rfl dJ1_indexOfChar_4cfef_9 ?_
      refine R.icmpN_ge (tgt := 31) hc dJ1_indexOfChar_4cfef_10 (by decide) (by omega) (by omega) (fun _ => ?_) (fun z => absurd (by omega) z)
      refine R.iconst hc ic_m1 dJ1_indexOfChar_4cfef_31 ?_
      exact R.iret hc rfl dJ1_indexOfChar_4cfef_32 ⟨rfl, by rw [← e]; rfl, rfl⟩
    | succ j ih =>
      intro i hi e
      have hpk := pkN_lt i
      refine R.iload (i := 5) hc rfl dJ1_indexOfChar_4cfef_7 ?_
      refine R.iload_n (j := 3) (i := 3) hc rfl rfl dJ1_indexOfChar_4cfef_9 ?_
      refine R.icmpN_ge (tgt := 31) hc dJ1_indexOfChar_4cfef_10 (by decide) (by omega) (by omega) (fun z => absurd z (by omega)) (fun _ => ?_)
      refine R.aload_n (j := 0) (i := 0) hc rfl rfl dJ1_indexOfChar_4cfef_13 ?_
      refine R.iload (i := 5) hc rfl dJ1_indexOfChar_4cfef_14 ?_
      refine R.tb hc (by omega) dJ1_indexOfChar_4cfef_16 ?_
      refine R.iload (i := 4) hc rfl dJ1_indexOfChar_4cfef_17 ?_
      refine R.icmpN_ne (tgt := 25) hc dJ1_indexOfChar_4cfef_19 (by decide) (by omega) (by omega) (fun z => ?_) (fun z => ?_)
      · refine R.iinc5 hc dJ1_indexOfChar_4cfef_25 (iiN1 _) (by decide) rfl ?_
        refine R.goto (tgt := 7) hc dJ1_indexOfChar_4cfef_28 (by decide) ?_
        exact ih (i + 1) (by omega) (by rw [← e, kdF, if_neg z])
      · refine R.iload (i := 5) hc rfl dJ1_indexOfChar_4cfef_22 ?_
        exact R.iret hc rfl dJ1_indexOfChar_4cfef_24 ⟨rfl, by rw [← e, kdF, if_pos z], rfl⟩
  exact key 5 0 rfl rfl
set_option maxHeartbeats 4000000 in
set_option maxRecDepth 100000 in
theorem c_indexOf4 (l : Launch) (d : Nat) (X : Nat × (Nat → Int32)) (n : Nat) {σ : Wd} {c : Nat} (hcc : c < 128) : CN l yJ1_indexOf_4cfef cJ1_indexOf_4cfef 4 (some .int) ((d + 1)) X n [.ref 1000002, .int (nI c), .int (nI 0), .int (nI 5)] σ (fun v σ' => v = some (.int (kdF 5 0 c)) ∧ σ' = σ) := by
  refine CN.of (by decide) [some (.ref 1000002), some (.int (nI c)), some (.int (nI 0)), some (.int (nI 5))] (fun _ => Nat.le_of_ble_eq_true rfl) (fun _ => rfl) (fun cx hc => ?_)
  refine R.iload_n (j := 1) (i := 1) hc rfl rfl dJ1_indexOf_4cfef_0 ?_
  refine R.cSr hc m_J1_canEncode_9a6ad lk_J1_88 dJ1_indexOf_4cfef_1 (c_canEncode l d X n hcc) rfl rfl (by omega) ⟨Nat.le_refl _, Nat.le_refl _⟩ (Nat.le_of_ble_eq_true rfl) ?_
  refine R.ifB_ne (tgt := 9) hc dJ1_indexOf_4cfef_4 (by decide) (fun _ => ?_) (fun q => absurd q (by decide))
  refine R.iload_n (j := 2) (i := 2) hc rfl rfl dJ1_indexOf_4cfef_9 ?_
  refine R.iconst hc ic_0 dJ1_indexOf_4cfef_10 ?_
  refine R.mmax hc lk_J1_92 (by omega) (Nat.le_of_ble_eq_true rfl) ⟨Nat.le_refl _, Nat.le_refl _⟩ dJ1_indexOf_4cfef_11 ?_
  rw [if_neg (by decide)]
  refine R.istn2 hc dJ1_indexOf_4cfef_14 (by decide) rfl ?_
  refine R.iload_n (j := 3) (i := 3) hc rfl rfl dJ1_indexOf_4cfef_15 ?_
  refine R.aload_n (j := 0) (i := 0) hc rfl rfl dJ1_indexOf_4cfef_16 ?_
  refine R.tlen hc dJ1_indexOf_4cfef_17 ?_
  refine R.mmin hc lk_J1_38 (by omega) (Nat.le_of_ble_eq_true rfl) ⟨Nat.le_refl _, Nat.le_refl _⟩ dJ1_indexOf_4cfef_18 ?_
  rw [if_neg (by decide)]
  refine R.istn3 hc dJ1_indexOf_4cfef_21 (by decide) rfl ?_
  refine R.iload_n (j := 2) (i := 2) hc rfl rfl dJ1_indexOf_4cfef_22 ?_
  refine R.iload_n (j := 3) (i := 3) hc rfl rfl dJ1_indexOf_4cfef_23 ?_
  refine R.icmpN_lt (tgt := 29) hc dJ1_indexOf_4cfef_24 (by decide) (by omega) (by omega) (fun _ => ?_) (fun q => absurd (by decide) q)
  refine R.aload_n (j := 0) (i := 0) hc rfl rfl dJ1_indexOf_4cfef_29 ?_
  refine R.iload_n (j := 1) (i := 1) hc rfl rfl dJ1_indexOf_4cfef_30 ?_
  refine R.iload_n (j := 2) (i := 2) hc rfl rfl dJ1_indexOf_4cfef_31 ?_
  refine R.iload_n (j := 3) (i := 3) hc rfl rfl dJ1_indexOf_4cfef_32 ?_
  refine R.cSr hc m_J1_indexOfChar_4cfef lk_J1_95 dJ1_indexOf_4cfef_33 (c_indexOfChar l d X n hcc) rfl rfl (by omega) ⟨Nat.le_refl _, Nat.le_refl _⟩ (Nat.le_of_ble_eq_true rfl) ?_
  exact R.iret hc rfl dJ1_indexOf_4cfef_36 ⟨rfl, rfl, rfl⟩
set_option maxHeartbeats 4000000 in
set_option maxRecDepth 100000 in
theorem c_indexOf2 (l : Launch) (d : Nat) (X : Nat × (Nat → Int32)) (n : Nat) {σ : Wd} {c : Nat} (hcc : c < 128) : CN l yJ0_indexOf_7cf53 cJ0_indexOf_7cf53 3 (some .int) ((d + 2)) X n [.ref 1000001, .int (nI c), .int (nI 0)] σ (fun v σ' => v = some (.int (kdF 5 0 c)) ∧ σ' = σ) := by
  refine CN.of (by decide) [some (.ref 1000001), some (.int (nI c)), some (.int (nI 0))] (fun _ => Nat.le_of_ble_eq_true rfl) (fun _ => rfl) (fun cx hc => ?_)
  refine R.aload_n (j := 0) (i := 0) hc rfl rfl dJ0_indexOf_7cf53_0 ?_
  refine R.cXr hc m_J0_isLatin1_aae02 lk_J0_492 rfl dJ0_indexOf_7cf53_1 (c_isLatin1 l (d + 1) X n) rfl rfl (by omega) ⟨Nat.le_refl _, Nat.le_refl _⟩ (Nat.le_of_ble_eq_true rfl) ?_
  refine R.ifB_eq (tgt := 23) hc dJ0_indexOf_7cf53_4 (by decide) (fun q => absurd q (by decide)) (fun _ => ?_)
  refine R.aload_n (j := 0) (i := 0) hc rfl rfl dJ0_indexOf_7cf53_7 ?_
  refine R.getV hc rfl dJ0_indexOf_7cf53_8 ?_
  refine R.iload_n (j := 1) (i := 1) hc rfl rfl dJ0_indexOf_7cf53_11 ?_
  refine R.iload_n (j := 2) (i := 2) hc rfl rfl dJ0_indexOf_7cf53_12 ?_
  refine R.aload_n (j := 0) (i := 0) hc rfl rfl dJ0_indexOf_7cf53_13 ?_
  refine R.cXr hc m_J0_length_8abf5 lk_J0_505 rfl dJ0_indexOf_7cf53_14 (c_length l d X n) rfl rfl (by omega) ⟨Nat.le_refl _, Nat.le_refl _⟩ (Nat.le_of_ble_eq_true rfl) ?_
  refine R.cSr hc m_J1_indexOf_4cfef lk_J0_637 dJ0_indexOf_7cf53_17 (c_indexOf4 l d X n hcc) rfl rfl (by omega) ⟨Nat.le_refl _, Nat.le_refl _⟩ (Nat.le_of_ble_eq_true rfl) ?_
  refine R.goto (tgt := 36) hc dJ0_indexOf_7cf53_20 (by decide) ?_
  exact R.iret hc rfl dJ0_indexOf_7cf53_36 ⟨rfl, rfl, rfl⟩
set_option maxHeartbeats 4000000 in
set_option maxRecDepth 100000 in
theorem c_indexOf1 (l : Launch) (d : Nat) (X : Nat × (Nat → Int32)) (n : Nat) {σ : Wd} {c : Nat} (hcc : c < 128) : CN l yJ0_indexOf_0f7a4 cJ0_indexOf_0f7a4 2 (some .int) ((d + 3)) X n [.ref 1000001, .int (nI c)] σ (fun v σ' => v = some (.int (lnI (kdN c))) ∧ σ' = σ) := by
  refine CN.of (by decide) [some (.ref 1000001), some (.int (nI c))] (fun _ => Nat.le_of_ble_eq_true rfl) (fun _ => rfl) (fun cx hc => ?_)
  refine R.aload_n (j := 0) (i := 0) hc rfl rfl dJ0_indexOf_0f7a4_0 ?_
  refine R.iload_n (j := 1) (i := 1) hc rfl rfl dJ0_indexOf_0f7a4_1 ?_
  refine R.iconst hc ic_0 dJ0_indexOf_0f7a4_2 ?_
  refine R.cXr hc m_J0_indexOf_7cf53 lk_J0_633 rfl dJ0_indexOf_0f7a4_3 (c_indexOf2 l d X n hcc) rfl rfl (by omega) ⟨Nat.le_refl _, Nat.le_refl _⟩ (Nat.le_of_ble_eq_true rfl) ?_
  have e9 : ∀ c, c < 128 → kdF 5 0 c = lnI (kdN c) := by decide +kernel
  exact R.iret hc rfl dJ0_indexOf_0f7a4_6 ⟨rfl, by rw [e9 c hcc], rfl⟩
