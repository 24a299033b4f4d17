theorem inR_I4 (x : Int32) : inR x 0 3 = inI x 4 := by
  unfold inR inI
  refine decide_eq_decide.mpr ?_
  rw [Int32.le_iff_toInt_le, Int32.le_iff_toInt_le, lt0_toInt, Int32.lt_iff_toInt_lt, nI_toInt (by decide), nI_toInt (by decide), nI_toInt (by decide)]
  omega
theorem refS_ge {ln sz : Nat → Nat} {s l : Nat} {i k : Int32} : 0 ≤ refS ln sz s l i k ↔ refS ln sz s l i k = 0 := by
  unfold refS
  split
  · decide
  · split
    · split <;> decide
    · decide
theorem lcmp_le (x y : Int64) : lg_cmp x y ≤ 0 ↔ x ≤ y := by
  rw [← Int32.not_lt, lcmp_gt, Int64.not_lt]
theorem add64 (i k : Int32) : (i.toInt64 + k.toInt64).toInt = i.toInt + k.toInt := by
  have h1 := Int32.le_toInt i
  have h2 := Int32.toInt_lt i
  have h3 := Int32.le_toInt k
  have h4 := Int32.toInt_lt k
  rw [Int64.toInt_add, Int32.toInt_toInt64, Int32.toInt_toInt64, Int.bmod_def]
  split <;> omega
theorem cut60 : ∀ l, l < 4 → ∀ d, d < 61 → cutL l (nI d).toInt64 = (nI d).toInt64 := by decide +kernel
theorem cutL_c {l d : Nat} (hl : l < 4) (hd : d ≤ 60) : cutL l (nI d).toInt64 = (nI d).toInt64 := cut60 l hl d (by omega)
section RSI
variable {A A' : Nat → Nat → Int32} {L L' : Nat → Nat → Int64} {I : Nat → Int32} {a : SA} {np nq hr dr : Nat} {hs : List SN} {im : IM} {tp : Nat → Nat} {tl : Nat} {ln sz ln' sz' : Nat → Nat} {it it' : Nat → Nat → Int64}
theorem RS.sh (h : RS A L I a np nq hr dr hs im tp tl ln sz it) (eA : ∀ k, k < 12 → A' k = A k) (h12 : ∀ s, s < 4 → A' 12 s = lnI (ln' s)) (h13 : ∀ s, s < 4 → A' 13 s = nI (sz' s)) (hi : ∀ s, s < 4 → ∀ i, i < sz' s → L' 0 (24 * s + i) = it' s i) : RS A' L' I a np nq hr dr hs im tp tl ln' sz' it' := by
  refine ⟨?_, ?_, h.un, h.ul, ?_, h.tn, ?_, h12, h13, hi⟩
  · rw [eA 0 (by omega)]; exact h.n
  · rw [eA 5 (by omega)]; exact h.u
  · rw [eA 2 (by omega)]; exact h.t
  · rw [eA 11 (by omega)]; exact h.k
theorem RS.itm (h : RS A L I a np nq hr dr hs im tp tl ln sz it) (hi : ∀ s, s < 4 → ∀ i, i < sz s → L' 0 (24 * s + i) = it' s i) : RS A L' I a np nq hr dr hs im tp tl ln sz it' := h.sh (fun _ _ => rfl) h.l h.s hi
end RSI
set_option maxHeartbeats 4000000 in
set_option maxRecDepth 100000 in
theorem c_X7_isSheet (l : Launch) (d : Nat) (X : Nat × (Nat → Int32)) (n : Nat) {σ : Wd} (x : Int32) : CN l yX7_isSheet cX7_isSheet 1 (some .boolean) ((d + 1)) X n [.int x] σ (fun v σ' => v = some (.int (b2 (inI x 4))) ∧ σ' = σ) := by
  refine CN.of (by decide) [some (.int x)] (fun _ => Nat.le_of_ble_eq_true rfl) (fun _ => rfl) (fun cx hc => ?_)
  refine R.iload_n (j := 0) (i := 0) hc rfl rfl dX7_isSheet_0 ?_
  refine R.i2l hc dX7_isSheet_1 ?_
  refine R.lconst (j := 0) (v := lN 0) hc rfl dX7_isSheet_2 ?_
  refine R.ldc2 hc kn_X7_230 dX7_isSheet_3 ?_
  refine R.cSr hc m_X7_in lk_X7_59 dX7_isSheet_6 (c_X7_in l d X n _ _ _) rfl rfl (by omega) ⟨Nat.le_refl _, Nat.le_refl _⟩ (Nat.le_of_ble_eq_true rfl) ?_
  rw [inL_R (by decide) (by decide), inR_I4]
  exact R.bret (c := inI x 4) hc rfl dX7_isSheet_9 rfl ⟨rfl, rfl, rfl⟩
set_option maxHeartbeats 4000000 in
set_option maxRecDepth 100000 in
theorem c_X7_isLane (l : Launch) (d : Nat) (X : Nat × (Nat → Int32)) (n : Nat) {σ : Wd} (x : Int32) : CN l yX7_isLane cX7_isLane 1 (some .boolean) ((d + 1)) X n [.int x] σ (fun v σ' => v = some (.int (b2 (inI x 4))) ∧ σ' = σ) := by
  refine CN.of (by decide) [some (.int x)] (fun _ => Nat.le_of_ble_eq_true rfl) (fun _ => rfl) (fun cx hc => ?_)
  refine R.iload_n (j := 0) (i := 0) hc rfl rfl dX7_isLane_0 ?_
  refine R.i2l hc dX7_isLane_1 ?_
  refine R.lconst (j := 0) (v := lN 0) hc rfl dX7_isLane_2 ?_
  refine R.ldc2 hc kn_X7_230 dX7_isLane_3 ?_
  refine R.cSr hc m_X7_in lk_X7_59 dX7_isLane_6 (c_X7_in l d X n _ _ _) rfl rfl (by omega) ⟨Nat.le_refl _, Nat.le_refl _⟩ (Nat.le_of_ble_eq_true rfl) ?_
  rw [inL_R (by decide) (by decide), inR_I4]
  exact R.bret (c := inI x 4) hc rfl dX7_isLane_9 rfl ⟨rfl, rfl, rfl⟩
set_option maxHeartbeats 4000000 in
set_option maxRecDepth 100000 in
theorem c_X7_why (l : Launch) (d : Nat) (X : Nat × (Nat → Int32)) (n : Nat) {σ : Wd} {A : Nat → Nat → Int32} {L : Nat → Nat → Int64} {I : Nat → Int32} (hR : RW σ A L I) {ln sz : Nat → Nat} (hl : ∀ s, s < 4 → A 12 s = lnI (ln s)) (hz : ∀ s, s < 4 → A 13 s = nI (sz s)) (hV : WS ln sz) {s l9 : Nat} (hs4 : s < 4) (hl9 : l9 < 100) (i k : Int32) : CN l yX7_why cX7_why 5 (some .int) (d) X n [.ref 42, .int (nI s), .int (nI l9), .int i, .int k] σ (fun v σ' => v = some (.int (refS ln sz s l9 i k)) ∧ σ' = σ) := by
  refine CN.of (by decide) [some (.ref 42), some (.int (nI s)), some (.int (nI l9)), some (.int i), some (.int k)] (fun _ => Nat.le_of_ble_eq_true rfl) (fun _ => rfl) (fun cx hc => ?_)
  obtain ⟨v1, v2⟩ := hV s hs4
  unfold refS at hc
  refine R.aload_n (j := 0) (i := 0) hc rfl rfl dX7_why_0 ?_
  refine R.get hc gf_X7_46_r dX7_why_1 (hR.1) rfl ?_
  refine R.iload_n (j := 1) (i := 1) hc rfl rfl dX7_why_4 ?_
  refine R.ialdV hc hR.g12 (by omega) (by decide) dX7_why_5 (hl s hs4) ?_
  by_cases h0 : ln s = 0
  · rw [if_pos h0] at hc
    rw [h0]
    refine R.if_ge (tgt := 12) hc dX7_why_6 (by decide) (fun z => absurd z (by decide)) (fun _ => ?_)
    refine R.bipush hc bp_m11 dX7_why_9 ?_
    exact R.iret hc rfl dX7_why_11 ⟨rfl, rfl, rfl⟩
  rw [if_neg h0] at hc
  obtain ⟨c, hcl⟩ : ∃ c, ln s = c + 1 := ⟨ln s - 1, by omega⟩
  have hl : ∀ s, s < 4 → A 12 s = lnI (ln s) := hl
  rw [hcl] at hc v1 ⊢
  simp only [lnI]
  refine R.ifN_ge (tgt := 12) hc dX7_why_6 (by decide) (by omega) ?_
  refine R.aload_n (j := 0) (i := 0) hc rfl rfl dX7_why_12 ?_
  refine R.get hc gf_X7_46_r dX7_why_13 (hR.1) rfl ?_
  refine R.iload_n (j := 1) (i := 1) hc rfl rfl dX7_why_16 ?_
  refine R.ialdV hc hR.g12 (by omega) (by decide) dX7_why_17 (hl s hs4) ?_
  rw [hcl]
  simp only [lnI]
  refine R.iload_n (j := 2) (i := 2) hc rfl rfl dX7_why_18 ?_
  refine R.icmpN_eq (tgt := 25) hc dX7_why_19 (by decide) (by omega) (by omega) (fun z => ?_) (fun z => ?_)
  rotate_left
  · rw [if_neg (by omega)] at hc
    refine R.bipush hc bp_m12 dX7_why_22 ?_
    exact R.iret hc rfl dX7_why_24 ⟨rfl, rfl, rfl⟩
  rw [if_pos (by omega)] at hc
  have h51 : holdB (sz s) i k = false → R cx 0 0 n σ 51 [some (.ref 42), some (.int (nI s)), some (.int (nI l9)), some (.int i), some (.int k)] [] := by
    intro hb
    rw [hb, if_neg (by decide)] at hc
    refine R.bipush hc bp_m13 dX7_why_51 ?_
    refine R.goto (tgt := 57) hc dX7_why_53 (by decide) ?_
    exact R.iret hc rfl dX7_why_57 ⟨rfl, rfl, rfl⟩
  refine R.iload_n (j := 3) (i := 3) hc rfl rfl dX7_why_25 ?_
  refine R.if_lt (tgt := 51) hc dX7_why_26 (by decide) (fun z => h51 (by simp only [holdB, decide_eq_false_iff_not]; have := lt0_toInt.mp z; omega)) (fun z => ?_)
  refine R.iload (i := 4) hc rfl dX7_why_29 ?_
  refine R.if_lt (tgt := 51) hc dX7_why_31 (by decide) (fun y => h51 (by simp only [holdB, decide_eq_false_iff_not]; have := lt0_toInt.mp y; omega)) (fun y => ?_)
  have h1 : ¬ i.toInt < 0 := fun u => z (lt0_toInt.mpr u)
  have h2 : ¬ k.toInt < 0 := fun u => y (lt0_toInt.mpr u)
  have hcmp : (lg_cmp (i.toInt64 + k.toInt64) (nI (sz s)).toInt64 ≤ 0) ↔ holdB (sz s) i k = true := by
    rw [lcmp_le, Int64.le_iff_toInt_le, add64, Int32.toInt_toInt64, nI_toInt (by omega)]
    simp only [holdB, decide_eq_true_eq]
    omega
  refine R.iload_n (j := 3) (i := 3) hc rfl rfl dX7_why_34 ?_
  refine R.i2l hc dX7_why_35 ?_
  refine R.iload (i := 4) hc rfl dX7_why_36 ?_
  refine R.i2l hc dX7_why_38 ?_
  refine R.ladd hc dX7_why_39 ?_
  refine R.aload_n (j := 0) (i := 0) hc rfl rfl dX7_why_40 ?_
  refine R.get hc gf_X7_49_r dX7_why_41 (hR.1) rfl ?_
  refine R.iload_n (j := 1) (i := 1) hc rfl rfl dX7_why_44 ?_
  refine R.ialdV hc hR.g13 (by omega) (by decide) dX7_why_45 (hz s hs4) ?_
  refine R.i2l hc dX7_why_46 ?_
  refine R.lcmp hc dX7_why_47 ?_
  refine R.if_le (tgt := 56) hc dX7_why_48 (by decide) (fun w => ?_) (fun w => h51 (by cases u : holdB (sz s) i k; rfl; exact absurd (hcmp.mpr u) w))
  rw [hcmp.mp w, if_pos rfl] at hc
  refine R.iconst hc ic_0 dX7_why_56 ?_
  exact R.iret hc rfl dX7_why_57 ⟨rfl, rfl, rfl⟩
set_option maxHeartbeats 4000000 in
set_option maxRecDepth 100000 in
theorem c_X7_sheet (l : Launch) (d : Nat) (X : Nat × (Nat → Int32)) (n : Nat) {σ : Wd} {a : SA} {np nq hr dr : Nat} {hs : List SN} {im : IM} {tp : Nat → Nat} {tl : Nat} {ln sz : Nat → Nat} {it : Nat → Nat → Int64} (hC : RA σ a np nq hr dr hs im tp tl ln sz it) (hI : WI a np nq hr dr hs im tp tl ln sz) (s l9 k : Int32) : CN l yX7_sheet cX7_sheet 5 (some .int) ((d + 2)) X n [.ref 42, .int s, .int l9, .int k] σ (fun r σ' => r = some (.int (s_sheet s l9 k)) ∧ ((if okSh s l9 k = true then RA σ' a np nq hr dr hs im tp tl (un ln (tN s) (tN l9 + 1)) (un sz (tN s) (tN k)) (fun s' i => if s' = tN s then 0 else it s' i) else RA σ' a np nq hr dr hs im tp tl ln sz it) ∧ Eqo 42 17 σ σ')) := by
  refine CN.of (by decide) [some (.ref 42), some (.int s), some (.int l9), some (.int k), none] (fun _ => Nat.le_of_ble_eq_true rfl) (fun _ => rfl) (fun cx hc => ?_)
  obtain ⟨A, L, I, hR, hS⟩ := hC
  obtain ⟨hW, hh, hdr, hwh, hwi, hU, hV⟩ := hI
  have hN := hS.n
  have hW1 := hW.1
  have hW2 := hW.2.1
  have hF : Eqo 42 17 σ σ := Eqo.rf
  refine R.iload_n (j := 1) (i := 1) hc rfl rfl dX7_sheet_0 ?_
  refine R.cSr hc m_X7_isSheet lk_X7_232 dX7_sheet_1 (c_X7_isSheet l d X n _) rfl rfl (by omega) ⟨Nat.le_refl _, Nat.le_refl _⟩ (Nat.le_of_ble_eq_true rfl) ?_
  refine R.ifB_eq (tgt := 20) hc dX7_sheet_4 (by decide) (fun q1 => ?_) (fun q1 => ?_)
  · refine R.iconst hc ic_m1 dX7_sheet_20 ?_
    have e9 : (-1) = s_sheet s l9 k := by simp [s_sheet, q1]
    exact R.iret hc rfl dX7_sheet_21 ⟨rfl, congrArg (fun z => some (Value.int z)) e9, by rw [if_neg (by simp [okSh, q1])]; exact ⟨A, L, I, hR, hS⟩, hF⟩
  refine R.iload_n (j := 2) (i := 2) hc rfl rfl dX7_sheet_7 ?_
  refine R.cSr hc m_X7_isLane lk_X7_235 dX7_sheet_8 (c_X7_isLane l d X n _) rfl rfl (by omega) ⟨Nat.le_refl _, Nat.le_refl _⟩ (Nat.le_of_ble_eq_true rfl) ?_
  refine R.ifB_eq (tgt := 20) hc dX7_sheet_11 (by decide) (fun q2 => ?_) (fun q2 => ?_)
  · refine R.iconst hc ic_m1 dX7_sheet_20 ?_
    have e9 : (-1) = s_sheet s l9 k := by simp [s_sheet, q2]
    exact R.iret hc rfl dX7_sheet_21 ⟨rfl, congrArg (fun z => some (Value.int z)) e9, by rw [if_neg (by simp [okSh, q2])]; exact ⟨A, L, I, hR, hS⟩, hF⟩
  refine R.iload_n (j := 3) (i := 3) hc rfl rfl dX7_sheet_14 ?_
  refine R.bipush hc bp_24 dX7_sheet_15 ?_
  refine R.icmp_le (tgt := 22) hc dX7_sheet_17 (by decide) (fun q3 => ?_) (fun q3 => ?_)
  rotate_left
  · refine R.iconst hc ic_m1 dX7_sheet_20 ?_
    have e9 : (-1) = s_sheet s l9 k := by simp [s_sheet, q3]
    exact R.iret hc rfl dX7_sheet_21 ⟨rfl, congrArg (fun z => some (Value.int z)) e9, by rw [if_neg (by simp [okSh, q3])]; exact ⟨A, L, I, hR, hS⟩, hF⟩
  refine R.iload_n (j := 3) (i := 3) hc rfl rfl dX7_sheet_22 ?_
  refine R.if_ge (tgt := 29) hc dX7_sheet_23 (by decide) (fun q4 => ?_) (fun q4 => ?_)
  rotate_left
  · have q4 : k < 0 := Int32.not_le.mp q4
    refine R.bipush hc bp_m14 dX7_sheet_26 ?_
    have e9 : (-14) = s_sheet s l9 k := by simp [s_sheet, q1, q2, q3, q4]
    exact R.iret hc rfl dX7_sheet_28 ⟨rfl, congrArg (fun z => some (Value.int z)) e9, by rw [if_neg (by simp [okSh, q4])]; exact ⟨A, L, I, hR, hS⟩, hF⟩
  have q4 : ¬ k < 0 := Int32.not_lt.mpr q4
  have hok : okSh s l9 k = true := by simp [okSh, q1, q2, q3, q4]
  obtain ⟨i1, rfl, g1, t1⟩ := inI_tN (by decide) q1
  obtain ⟨i2, rfl, g2, t2⟩ := inI_tN (by decide) q2
  obtain ⟨w, hw9, rfl⟩ := nI_of q4
  have hw : w ≤ 24 := (nI_leI hw9 (by decide)).mp q3
  have hA : s_sheet (nI i1) (nI i2) (nI w) = nI w := by simp [s_sheet, q1, q2, q3, q4]
  rw [hA, t1, t2, tN_nI hw9] at hc
  obtain ⟨σ0, hσ0⟩ : ∃ z, z = σ := ⟨_, rfl⟩
  rw [← hσ0] at hc
  have hF : Eqo 42 17 σ0 σ := by rw [hσ0]; exact Eqo.rf
  refine R.aload_n (j := 0) (i := 0) hc rfl rfl dX7_sheet_29 ?_
  refine R.get hc gf_X7_46_r dX7_sheet_30 (hR.1) rfl ?_
  refine R.iload_n (j := 1) (i := 1) hc rfl rfl dX7_sheet_33 ?_
  refine R.iload_n (j := 2) (i := 2) hc rfl rfl dX7_sheet_34 ?_
  refine R.iastG hc dX7_sheet_35 hR.g12 (by omega) (by decide) (fun σ hX hE => ?_)
  have hR := hR.w12 hX hE
  have hF := hF.tr (hE.wid (by omega))
  refine R.aload_n (j := 0) (i := 0) hc rfl rfl dX7_sheet_36 ?_
  refine R.get hc gf_X7_49_r dX7_sheet_37 (hR.1) rfl ?_
  refine R.iload_n (j := 1) (i := 1) hc rfl rfl dX7_sheet_40 ?_
  refine R.iload_n (j := 3) (i := 3) hc rfl rfl dX7_sheet_41 ?_
  refine R.iastG hc dX7_sheet_42 hR.g13 (by omega) (by decide) (fun σ hX hE => ?_)
  have hR := hR.w13 hX hE
  have hF := hF.tr (hE.wid (by omega))
  refine R.iconst hc ic_0 dX7_sheet_43 ?_
  refine R.ist4 hc dX7_sheet_44 (by decide) rfl ?_
  refine rl_down (P := fun j => ∀ (σ : Wd) (M : Nat → Nat → Int64), RW σ (A2 (A2 A 12 i1 (nI i2)) 13 i1 (nI w)) M I → (∀ x, M 0 x = if 24 * i1 ≤ x ∧ x < 24 * i1 + j then 0 else L 0 x) → Eqo 42 17 σ0 σ → R cx 0 0 n σ 46 [some (.ref 42), some (.int (nI i1)), some (.int (nI i2)), some (.int (nI w)), some (.int (nI j))] []) 24 (fun σ M hR hM hF => ?_) (fun j hj ih σ M hR hM hF => ?_) 0 (Nat.zero_le _) σ L hR (fun x => by rw [if_neg (by omega)]) hF
  · refine R.iload (i := 4) hc rfl dX7_sheet_46 ?_
    refine R.bipush hc bp_24 dX7_sheet_48 ?_
    refine R.icmpN_ge (tgt := 72) hc dX7_sheet_50 (by decide) (by omega) (by omega) (fun _ => ?_) (fun z => absurd (Nat.le_refl _) z)
    refine R.iload_n (j := 3) (i := 3) hc rfl rfl dX7_sheet_72 ?_
    refine R.iret hc rfl dX7_sheet_73 ⟨rfl, rfl, ?_, hF⟩
    rw [if_pos hok]
    refine ⟨_, M, I, hR, hS.sh (fun k hk => by rw [A2_n (by omega), A2_n (by omega)]) (fun s hs => ?_) (fun s hs => ?_) (fun s hs i hi => ?_)⟩
    · rw [A2_n (by omega), A2_s, un]
      by_cases e : s = i1
      · rw [e, pk_us, if_pos rfl]; rfl
      · rw [pk_un e, if_neg e]; exact hS.l s hs
    · rw [A2_s, A2_n (by omega), un]
      by_cases e : s = i1
      · rw [e, pk_us, if_pos rfl]
      · rw [pk_un e, if_neg e]; exact hS.s s hs
    · rw [un] at hi
      have v2 := (hV s hs).2
      show M 0 (24 * s + i) = if s = i1 then 0 else it s i
      by_cases e : s = i1
      · rw [if_pos e] at hi ⊢
        rw [hM, if_pos (by omega)]
      · rw [if_neg e] at hi ⊢
        rw [hM, if_neg (by omega)]
        exact hS.i s hs i hi
  · refine R.iload (i := 4) hc rfl dX7_sheet_46 ?_
    refine R.bipush hc bp_24 dX7_sheet_48 ?_
    refine R.icmpN_ge (tgt := 72) hc dX7_sheet_50 (by decide) (by omega) (by omega) (fun z => absurd z (by omega)) (fun _ => ?_)
    refine R.aload_n (j := 0) (i := 0) hc rfl rfl dX7_sheet_53 ?_
    refine R.get hc gf_X7_52_r dX7_sheet_54 (hR.1) rfl ?_
    refine R.bipush hc bp_24 dX7_sheet_57 ?_
    refine R.iload_n (j := 1) (i := 1) hc rfl rfl dX7_sheet_59 ?_
    first | refine R.imulN hc dX7_sheet_60 ?_ | refine R.imul hc dX7_sheet_60 ?_
    refine R.iload (i := 4) hc rfl dX7_sheet_61 ?_
    first | refine R.iaddN hc dX7_sheet_63 ?_ | refine R.iadd hc dX7_sheet_63 ?_
    refine R.lconst (j := 0) (v := lN 0) hc rfl dX7_sheet_64 ?_
    refine R.lastG hc dX7_sheet_65 hR.h0 (by omega) (by decide) (fun σ hX hE => ?_)
    have hR := hR.v0 hX hE
    have hF := hF.tr (hE.wid (by omega))
    refine R.iinc4 hc dX7_sheet_66 (iiN1 _) (by decide) rfl ?_
    refine R.goto (tgt := 46) hc dX7_sheet_69 (by decide) ?_
    refine ih σ _ hR (fun x => ?_) hF
    rw [L2_s]
    by_cases e : x = 24 * i1 + j
    · rw [e, pk_uLs, if_pos (by omega)]; rfl
    · rw [pk_uLn e, hM]
      by_cases y : 24 * i1 ≤ x ∧ x < 24 * i1 + j
      · rw [if_pos y, if_pos (by omega)]
      · rw [if_neg y, if_neg (by omega)]
set_option maxHeartbeats 4000000 in
set_option maxRecDepth 100000 in
theorem c_X7_drop (l : Launch) (d : Nat) (X : Nat × (Nat → Int32)) (n : Nat) {σ : Wd} {a : SA} {np nq hr dr : Nat} {hs : List SN} {im : IM} {tp : Nat → Nat} {tl : Nat} {ln sz : Nat → Nat} {it : Nat → Nat → Int64} (hC : RA σ a np nq hr dr hs im tp tl ln sz it) (hI : WI a np nq hr dr hs im tp tl ln sz) (s : Int32) : CN l yX7_drop cX7_drop 2 (some .int) ((d + 2)) X n [.ref 42, .int s] σ (fun r σ' => r = some (.int (s_drop ln sz s)) ∧ ((if okDr ln s = true then RA σ' a np nq hr dr hs im tp tl (un ln (tN s) 0) sz it else RA σ' a np nq hr dr hs im tp tl ln sz it) ∧ Eqo 42 17 σ σ')) := by
  refine CN.of (by decide) [some (.ref 42), some (.int s)] (fun _ => Nat.le_of_ble_eq_true rfl) (fun _ => rfl) (fun cx hc => ?_)
  obtain ⟨A, L, I, hR, hS⟩ := hC
  obtain ⟨hW, hh, hdr, hwh, hwi, hU, hV⟩ := hI
  have hN := hS.n
  have hW1 := hW.1
  have hW2 := hW.2.1
  have hF : Eqo 42 17 σ σ := Eqo.rf
  refine R.iload_n (j := 1) (i := 1) hc rfl rfl dX7_drop_0 ?_
  refine R.cSr hc m_X7_isSheet lk_X7_232 dX7_drop_1 (c_X7_isSheet l d X n _) rfl rfl (by omega) ⟨Nat.le_refl _, Nat.le_refl _⟩ (Nat.le_of_ble_eq_true rfl) ?_
  refine R.ifB_ne (tgt := 9) hc dX7_drop_4 (by decide) (fun q1 => ?_) (fun q1 => ?_)
  rotate_left
  · refine R.iconst hc ic_m1 dX7_drop_7 ?_
    have e9 : (-1) = s_drop ln sz s := by simp [s_drop, q1]
    exact R.iret hc rfl dX7_drop_8 ⟨rfl, congrArg (fun z => some (Value.int z)) e9, by rw [if_neg (by simp [okDr, q1])]; exact ⟨A, L, I, hR, hS⟩, hF⟩
  obtain ⟨i1, rfl, g1, t1⟩ := inI_tN (by decide) q1
  have v1 := (hV i1 g1).1
  refine R.aload_n (j := 0) (i := 0) hc rfl rfl dX7_drop_9 ?_
  refine R.get hc gf_X7_46_r dX7_drop_10 (hR.1) rfl ?_
  refine R.iload_n (j := 1) (i := 1) hc rfl rfl dX7_drop_13 ?_
  refine R.ialdV hc hR.g12 (by omega) (by decide) dX7_drop_14 (hS.l i1 g1) ?_
  by_cases h0 : ln i1 = 0
  · rw [h0]
    refine R.if_ge (tgt := 21) hc dX7_drop_15 (by decide) (fun z => absurd z (by decide)) (fun _ => ?_)
    refine R.bipush hc bp_m11 dX7_drop_18 ?_
    have e9 : (-11) = s_drop ln sz (nI i1) := by simp [s_drop, q1, t1, h0]
    exact R.iret hc rfl dX7_drop_20 ⟨rfl, congrArg (fun z => some (Value.int z)) e9, by rw [if_neg (by simp [okDr, t1, h0])]; exact ⟨A, L, I, hR, hS⟩, hF⟩
  obtain ⟨c, hcl⟩ : ∃ c, ln i1 = c + 1 := ⟨ln i1 - 1, by omega⟩
  have hok : okDr ln (nI i1) = true := by simp [okDr, q1, t1, h0]
  have hA : s_drop ln sz (nI i1) = nI (sz i1) := by simp [s_drop, q1, t1, h0]
  rw [hA, t1] at hc
  rw [hcl]
  simp only [lnI]
  refine R.ifN_ge (tgt := 21) hc dX7_drop_15 (by decide) (by omega) ?_
  refine R.aload_n (j := 0) (i := 0) hc rfl rfl dX7_drop_21 ?_
  refine R.get hc gf_X7_46_r dX7_drop_22 (hR.1) rfl ?_
  refine R.iload_n (j := 1) (i := 1) hc rfl rfl dX7_drop_25 ?_
  refine R.iconst hc ic_m1 dX7_drop_26 ?_
  refine R.iastG hc dX7_drop_27 hR.g12 (by omega) (by decide) (fun σ hX hE => ?_)
  have hR := hR.w12 hX hE
  have hF := hF.tr (hE.wid (by omega))
  refine R.aload_n (j := 0) (i := 0) hc rfl rfl dX7_drop_28 ?_
  refine R.get hc gf_X7_49_r dX7_drop_29 (hR.1) rfl ?_
  refine R.iload_n (j := 1) (i := 1) hc rfl rfl dX7_drop_32 ?_
  refine R.ialdV hc hR.g13 (by omega) (by decide) dX7_drop_33 (show A2 A 12 i1 (-1) 13 i1 = nI (sz i1) by rw [A2_n (by omega)]; exact hS.s i1 g1) ?_
  refine R.iret hc rfl dX7_drop_34 ⟨rfl, rfl, ?_, hF⟩
  rw [if_pos hok]
  refine ⟨_, L, I, hR, hS.sh (fun k hk => by rw [A2_n (by omega)]) (fun s hs => ?_) (fun s hs => by rw [A2_n (by omega)]; exact hS.s s hs) hS.i⟩
  rw [A2_s, un]
  by_cases e : s = i1
  · rw [e, pk_us, if_pos rfl]; rfl
  · rw [pk_un e, if_neg e]; exact hS.l s hs
set_option maxHeartbeats 4000000 in
set_option maxRecDepth 100000 in
theorem c_X7_item (l : Launch) (d : Nat) (X : Nat × (Nat → Int32)) (n : Nat) {σ : Wd} {a : SA} {np nq hr dr : Nat} {hs : List SN} {im : IM} {tp : Nat → Nat} {tl : Nat} {ln sz : Nat → Nat} {it : Nat → Nat → Int64} (hC : RA σ a np nq hr dr hs im tp tl ln sz it) (hI : WI a np nq hr dr hs im tp tl ln sz) (s l9 i : Int32) (v : Int64) : CN l yX7_item cX7_item 7 (some .int) ((d + 2)) X n [.ref 42, .int s, .int l9, .int i, .long v] σ (fun r σ' => r = some (.int (s_item ln sz s l9 i)) ∧ ((if okIt ln sz s l9 i = true then RA σ' a np nq hr dr hs im tp tl ln sz (itS it (tN s) (tN i) (cutL (tN l9) v)) else RA σ' a np nq hr dr hs im tp tl ln sz it) ∧ Eqo 42 17 σ σ')) := by
  refine CN.of (by decide) [some (.ref 42), some (.int s), some (.int l9), some (.int i), some (.long v), none, none] (fun _ => Nat.le_of_ble_eq_true rfl) (fun _ => rfl) (fun cx hc => ?_)
  obtain ⟨A, L, I, hR, hS⟩ := hC
  obtain ⟨hW, hh, hdr, hwh, hwi, hU, hV⟩ := hI
  have hN := hS.n
  have hW1 := hW.1
  have hW2 := hW.2.1
  have hF : Eqo 42 17 σ σ := Eqo.rf
  refine R.iload_n (j := 1) (i := 1) hc rfl rfl dX7_item_0 ?_
  refine R.cSr hc m_X7_isSheet lk_X7_232 dX7_item_1 (c_X7_isSheet l d X n _) rfl rfl (by omega) ⟨Nat.le_refl _, Nat.le_refl _⟩ (Nat.le_of_ble_eq_true rfl) ?_
  refine R.ifB_eq (tgt := 14) hc dX7_item_4 (by decide) (fun q1 => ?_) (fun q1 => ?_)
  · refine R.iconst hc ic_m1 dX7_item_14 ?_
    have e9 : (-1) = s_item ln sz s l9 i := by simp [s_item, q1]
    exact R.iret hc rfl dX7_item_15 ⟨rfl, congrArg (fun z => some (Value.int z)) e9, by rw [if_neg (by simp [okIt, q1])]; exact ⟨A, L, I, hR, hS⟩, hF⟩
  refine R.iload_n (j := 2) (i := 2) hc rfl rfl dX7_item_7 ?_
  refine R.cSr hc m_X7_isLane lk_X7_235 dX7_item_8 (c_X7_isLane l d X n _) rfl rfl (by omega) ⟨Nat.le_refl _, Nat.le_refl _⟩ (Nat.le_of_ble_eq_true rfl) ?_
  refine R.ifB_ne (tgt := 16) hc dX7_item_11 (by decide) (fun q2 => ?_) (fun q2 => ?_)
  rotate_left
  · refine R.iconst hc ic_m1 dX7_item_14 ?_
    have e9 : (-1) = s_item ln sz s l9 i := by simp [s_item, q2]
    exact R.iret hc rfl dX7_item_15 ⟨rfl, congrArg (fun z => some (Value.int z)) e9, by rw [if_neg (by simp [okIt, q2])]; exact ⟨A, L, I, hR, hS⟩, hF⟩
  obtain ⟨i1, rfl, g1, t1⟩ := inI_tN (by decide) q1
  obtain ⟨i2, rfl, g2, t2⟩ := inI_tN (by decide) q2
  refine R.aload_n (j := 0) (i := 0) hc rfl rfl dX7_item_16 ?_
  refine R.iload_n (j := 1) (i := 1) hc rfl rfl dX7_item_17 ?_
  refine R.iload_n (j := 2) (i := 2) hc rfl rfl dX7_item_18 ?_
  refine R.iload_n (j := 3) (i := 3) hc rfl rfl dX7_item_19 ?_
  refine R.iconst hc ic_1 dX7_item_20 ?_
  refine R.cVr hc m_X7_why lk_X7_242 dX7_item_21 (c_X7_why l (d + 1) X n hR hS.l hS.s hV (by omega) (by omega) _ _) (hR.1) rfl rfl rfl (by omega) ⟨Nat.le_refl _, Nat.le_refl _⟩ (Nat.le_of_ble_eq_true rfl) ?_
  refine R.ist6 hc dX7_item_24 (by decide) rfl ?_
  refine R.iload (i := 6) hc rfl dX7_item_26 ?_
  refine R.if_ge (tgt := 34) hc dX7_item_28 (by decide) (fun z => ?_) (fun z => ?_)
  rotate_left
  · have z : ¬ refS ln sz i1 i2 i 1 = 0 := fun y => z (refS_ge.mpr y)
    refine R.iload (i := 6) hc rfl dX7_item_31 ?_
    have e9 : refS ln sz i1 i2 i (nI 1) = s_item ln sz (nI i1) (nI i2) i := by simp [s_item, q1, q2, t1, t2, z]; rfl
    exact R.iret hc rfl dX7_item_33 ⟨rfl, congrArg (fun z => some (Value.int z)) e9, by rw [if_neg (by simp [okIt, t1, t2, z])]; exact ⟨A, L, I, hR, hS⟩, hF⟩
  have z : refS ln sz i1 i2 i 1 = 0 := refS_ge.mp z
  have hok : okIt ln sz (nI i1) (nI i2) i = true := by simp [okIt, q1, q2, t1, t2, z]
  have hA : s_item ln sz (nI i1) (nI i2) i = nI 1 := by simp [s_item, q1, q2, t1, t2, z]; rfl
  obtain ⟨h1, h2⟩ := refS_ok z
  obtain ⟨j, k1, rfl, hk1, h3, t3, t4⟩ := holdB_of h2
  have hk1 : k1 = 1 := by
    have e1 : tN 1 = k1 := t4
    rw [← e1]; rfl
  have v2 := (hV i1 g1).2
  rw [hA, t1, t2, t3] at hc
  obtain ⟨σ0, hσ0⟩ : ∃ z, z = σ := ⟨_, rfl⟩
  rw [← hσ0] at hc
  have hF : Eqo 42 17 σ0 σ := by rw [hσ0]; exact Eqo.rf
  have tail : R cx 0 0 n σ 83 [some (.ref 42), some (.int (nI i1)), some (.int (nI i2)), some (.int (nI j)), some (.long v), none, some (.int (refS ln sz i1 i2 (nI j) (nI 1)))] [.long (cutL i2 v), .int (nI (24 * i1 + j)), .ref 57] := by
    refine R.lastG hc dX7_item_83 hR.h0 (by omega) (by decide) (fun σ hX hE => ?_)
    have hR := hR.v0 hX hE
    have hF := hF.tr (hE.wid (by omega))
    refine R.iconst hc ic_1 dX7_item_84 ?_
    refine R.iret hc rfl dX7_item_85 ⟨rfl, rfl, ?_, hF⟩
    rw [if_pos hok]
    refine ⟨A, _, I, hR, hS.itm (fun s hs i hi => ?_)⟩
    have v3 := (hV s hs).2
    rw [L2_s]
    show _ = if s = i1 ∧ i = j then cutL i2 v else it s i
    by_cases e : s = i1 ∧ i = j
    · rw [if_pos e, e.1, e.2, pk_uLs]
    · rw [if_neg e, pk_uLn (by omega)]; exact hS.i s hs i hi
  refine R.aload_n (j := 0) (i := 0) hc rfl rfl dX7_item_34 ?_
  refine R.get hc gf_X7_52_r dX7_item_35 (hR.1) rfl ?_
  refine R.bipush hc bp_24 dX7_item_38 ?_
  refine R.iload_n (j := 1) (i := 1) hc rfl rfl dX7_item_40 ?_
  first | refine R.imulN hc dX7_item_41 ?_ | refine R.imul hc dX7_item_41 ?_
  refine R.iload_n (j := 3) (i := 3) hc rfl rfl dX7_item_42 ?_
  first | refine R.iaddN hc dX7_item_43 ?_ | refine R.iadd hc dX7_item_43 ?_
  refine R.iload_n (j := 2) (i := 2) hc rfl rfl dX7_item_44 ?_
  refine R.ifN_ne (tgt := 56) hc dX7_item_45 (by decide) (by omega) (fun y0 => ?_) (fun y0 => ?_)
  rotate_left
  · subst y0
    refine R.lload (i := 4) hc rfl dX7_item_48 ?_
    refine R.l2i hc dX7_item_50 ?_
    refine R.i2b hc dX7_item_51 ?_
    refine R.i2l hc dX7_item_52 ?_
    refine R.goto (tgt := 83) hc dX7_item_53 (by decide) ?_
    exact tail
  refine R.iload_n (j := 2) (i := 2) hc rfl rfl dX7_item_56 ?_
  refine R.iconst hc ic_1 dX7_item_57 ?_
  refine R.icmpN_ne (tgt := 69) hc dX7_item_58 (by decide) (by omega) (by omega) (fun y1 => ?_) (fun y1 => ?_)
  rotate_left
  · subst y1
    refine R.lload (i := 4) hc rfl dX7_item_61 ?_
    refine R.l2i hc dX7_item_63 ?_
    refine R.i2s hc dX7_item_64 ?_
    refine R.i2l hc dX7_item_65 ?_
    refine R.goto (tgt := 83) hc dX7_item_66 (by decide) ?_
    exact tail
  refine R.iload_n (j := 2) (i := 2) hc rfl rfl dX7_item_69 ?_
  refine R.iconst hc ic_2 dX7_item_70 ?_
  refine R.icmpN_ne (tgt := 81) hc dX7_item_71 (by decide) (by omega) (by omega) (fun y2 => ?_) (fun y2 => ?_)
  rotate_left
  · subst y2
    refine R.lload (i := 4) hc rfl dX7_item_74 ?_
    refine R.l2i hc dX7_item_76 ?_
    refine R.i2l hc dX7_item_77 ?_
    refine R.goto (tgt := 83) hc dX7_item_78 (by decide) ?_
    exact tail
  have e3 : i2 = 3 := by omega
  subst e3
  refine R.lload (i := 4) hc rfl dX7_item_81 ?_
  exact tail
