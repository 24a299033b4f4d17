def okSh (s l9 k : Int32) : Bool := inI s 4 && inI l9 4 && decide (k ≤ nI 24) && decide (¬ k < 0)
def s_sheet (s l9 k : Int32) : Int32 := if inI s 4 && inI l9 4 && decide (k ≤ nI 24) then (if k < 0 then -14 else k) else -1
def okDr (ln : Nat → Nat) (s : Int32) : Bool := inI s 4 && ln (tN s) != 0
def s_drop (ln sz : Nat → Nat) (s : Int32) : Int32 := if inI s 4 then (if ln (tN s) = 0 then -11 else nI (sz (tN s))) else -1
def okIt (ln sz : Nat → Nat) (s l9 i : Int32) : Bool := inI s 4 && inI l9 4 && decide (refS ln sz (tN s) (tN l9) i 1 = 0)
def s_item (ln sz : Nat → Nat) (s l9 i : Int32) : Int32 := if inI s 4 && inI l9 4 then (if refS ln sz (tN s) (tN l9) i 1 = 0 then 1 else refS ln sz (tN s) (tN l9) i 1) else -1
def cpS (ln sz : Nat → Nat) (s t : Nat) (i j k : Int32) : Int32 := if ln s = 0 ∨ ln t = 0 then -11 else if ln s = ln t then (if holdB (sz s) i k && holdB (sz t) j k then 0 else -13) else -12
def okCp (ln sz : Nat → Nat) (s i t j k : Int32) : Bool := inI s 4 && inI t 4 && decide (cpS ln sz (tN s) (tN t) i j k = 0)
def s_copy (ln sz : Nat → Nat) (s i t j k : Int32) : Int32 := if inI s 4 && inI t 4 then (if cpS ln sz (tN s) (tN t) i j k = 0 then k else cpS ln sz (tN s) (tN t) i j k) else -1
theorem holdB_of {z : Nat} {i k : Int32} (h : holdB z i k = true) : ∃ i' k', i = nI i' ∧ k = nI k' ∧ i' + k' ≤ z ∧ tN i = i' ∧ tN k = k' := by
  simp only [holdB, decide_eq_true_eq] at h
  have h1 : ¬ i < 0 := fun y => by have := lt0_toInt.mp y; omega
  have h2 : ¬ k < 0 := fun y => by have := lt0_toInt.mp y; omega
  obtain ⟨i', hi, rfl⟩ := nI_of h1
  obtain ⟨k', hk, rfl⟩ := nI_of h2
  rw [nI_toInt hi, nI_toInt hk] at h
  exact ⟨i', k', rfl, rfl, by omega, nI_clamp hi, nI_clamp hk⟩
theorem refS_ok {ln sz : Nat → Nat} {s l9 : Nat} {i k : Int32} (h : refS ln sz s l9 i k = 0) : ln s = l9 + 1 ∧ holdB (sz s) i k = true := by
  unfold refS at h
  split at h
  · exact absurd h (by decide)
  · split at h
    · rename_i e
      refine ⟨e, ?_⟩
      split at h
      · assumption
      · exact absurd h (by decide)
    · exact absurd h (by decide)
set_option maxHeartbeats 4000000 in
set_option maxRecDepth 100000 in
theorem c_X6_sheet (l : Launch) (d : Nat) (X : Nat × (Nat → Int32)) (n : Nat) {σ : Wd} {a : SA} {np nq hr dr : Nat} {hs : List SN} {im : IM} {tp : Nat → Nat} {tl : Nat} {ln sz : Nat → Nat} {it : Nat → Nat → Int64} (hC : CA σ a np nq hr dr hs im tp tl ln sz it) (hI : WI a np nq hr dr hs im tp tl ln sz) (s l9 k : Int32) : CN l yX6_sheet cX6_sheet 4 (some .int) ((d + 1)) X n [.ref 0, .int s, .int l9, .int k] σ (fun v σ' => v = some (.int (s_sheet s l9 k)) ∧ ((if okSh s l9 k = true then CA σ' a np nq hr dr hs im tp tl (un ln (tN s) (tN l9 + 1)) (un sz (tN s) (tN k)) (fun s' i => if s' = tN s then 0 else it s' i) else CA σ' a np nq hr dr hs im tp tl ln sz it) ∧ Eqo 0 42 σ σ')) := by
  refine CN.of (by decide) [some (.ref 0), some (.int s), some (.int l9), some (.int k)] (fun _ => Nat.le_of_ble_eq_true rfl) (fun _ => rfl) (fun cx hc => ?_)
  obtain ⟨da, dp, dq, dh, dd, hD⟩ := hC.cd
  obtain ⟨hW, hh, hdr, hwh, hwi, hU, hV⟩ := hI
  have hW1 := hW.1
  have hW2 := hW.2.1
  have hF : Eqo 0 42 σ σ := Eqo.rf
  refine R.iload_n (j := 1) (i := 1) hc rfl rfl dX6_sheet_0 ?_
  refine R.cSr hc m_X3_isSheet lk_X6_229 dX6_sheet_1 (c_X3_isSheet l d X n _) rfl rfl (by omega) ⟨Nat.le_refl _, Nat.le_refl _⟩ (Nat.le_of_ble_eq_true rfl) ?_
  refine R.ifB_eq (tgt := 20) hc dX6_sheet_4 (by decide) (fun q1 => ?_) (fun q1 => ?_)
  · refine R.iconst hc ic_m1 dX6_sheet_20 ?_
    have e9 : (-1) = s_sheet s l9 k := by simp [s_sheet, q1]
    exact R.iret hc rfl dX6_sheet_21 ⟨rfl, congrArg (fun z => some (Value.int z)) e9, by rw [if_neg (by simp [okSh, q1])]; exact hD.ca, hF⟩
  refine R.iload_n (j := 2) (i := 2) hc rfl rfl dX6_sheet_7 ?_
  refine R.cSr hc m_X3_isLane lk_X6_232 dX6_sheet_8 (c_X3_isLane l d X n _) rfl rfl (by omega) ⟨Nat.le_refl _, Nat.le_refl _⟩ (Nat.le_of_ble_eq_true rfl) ?_
  refine R.ifB_eq (tgt := 20) hc dX6_sheet_11 (by decide) (fun q2 => ?_) (fun q2 => ?_)
  · refine R.iconst hc ic_m1 dX6_sheet_20 ?_
    have e9 : (-1) = s_sheet s l9 k := by simp [s_sheet, q2]
    exact R.iret hc rfl dX6_sheet_21 ⟨rfl, congrArg (fun z => some (Value.int z)) e9, by rw [if_neg (by simp [okSh, q2])]; exact hD.ca, hF⟩
  refine R.iload_n (j := 3) (i := 3) hc rfl rfl dX6_sheet_14 ?_
  refine R.bipush hc bp_24 dX6_sheet_15 ?_
  refine R.icmp_le (tgt := 22) hc dX6_sheet_17 (by decide) (fun q3 => ?_) (fun q3 => ?_)
  rotate_left
  · refine R.iconst hc ic_m1 dX6_sheet_20 ?_
    have e9 : (-1) = s_sheet s l9 k := by simp [s_sheet, q3]
    exact R.iret hc rfl dX6_sheet_21 ⟨rfl, congrArg (fun z => some (Value.int z)) e9, by rw [if_neg (by simp [okSh, q3])]; exact hD.ca, hF⟩
  refine R.iload_n (j := 3) (i := 3) hc rfl rfl dX6_sheet_22 ?_
  refine R.if_ge (tgt := 29) hc dX6_sheet_23 (by decide) (fun q4 => ?_) (fun q4 => ?_)
  rotate_left
  · have q4 : k < 0 := Int32.not_le.mp q4
    refine R.bipush hc bp_m14 dX6_sheet_26 ?_
    have e9 : (-14) = s_sheet s l9 k := by rw [s_sheet, if_pos (by simp [q1, q2, q3]), if_pos q4]
    exact R.iret hc rfl dX6_sheet_28 ⟨rfl, congrArg (fun z => some (Value.int z)) e9, by rw [if_neg (by simp only [okSh, Bool.and_eq_true, decide_eq_true_eq]; exact fun z => z.2 q4)]; exact hD.ca, hF⟩
  have q4 : ¬ k < 0 := Int32.not_lt.mpr q4
  have hok : okSh s l9 k = true := by simp only [okSh, Bool.and_eq_true, decide_eq_true_eq]; exact ⟨⟨⟨q1, q2⟩, q3⟩, q4⟩
  obtain ⟨i1, rfl, g1, t1⟩ := inI_tN (by decide) q1
  obtain ⟨i2, rfl, g2, t2⟩ := inI_tN (by decide) q2
  obtain ⟨i3, hi3, rfl⟩ := nI_of q4
  have g3 := (nI_leI hi3 (by decide)).mp q3
  have hA : s_sheet (nI i1) (nI i2) (nI i3) = nI i3 := by rw [s_sheet, if_pos (by simp [q1, q2, q3]), if_neg q4]
  rw [hA, t1, t2, tN_nI hi3] at hc
  refine R.aload_n (j := 0) (i := 0) hc rfl rfl dX6_sheet_29 ?_
  refine R.get hc gf_X6_46_r dX6_sheet_30 (hD.1) rfl ?_
  refine R.iload_n (j := 1) (i := 1) hc rfl rfl dX6_sheet_33 ?_
  refine R.iload_n (j := 2) (i := 2) hc rfl rfl dX6_sheet_34 ?_
  refine R.iload_n (j := 3) (i := 3) hc rfl rfl dX6_sheet_35 ?_
  refine R.cVu hc m_X3_renew lk_X6_250 dX6_sheet_36 (c_X3_renew l d X n hD.2.2.2.2.2.2.1 hV (by omega) (by omega) (by omega)) (hD.2.2.2.2.2.2.1.1) rfl rfl rfl (by omega) ⟨Nat.le_refl _, Nat.le_refl _⟩ (Nat.le_of_ble_eq_true rfl) (fun σ hX => ?_)
  have hD := hD.sh hX.1 hX.2
  have hF := hF.tr (hX.2.wid (by omega))
  refine R.iload_n (j := 3) (i := 3) hc rfl rfl dX6_sheet_39 ?_
  exact R.iret hc rfl dX6_sheet_40 ⟨rfl, rfl, by rw [if_pos hok]; exact hD.ca, hF⟩
set_option maxHeartbeats 4000000 in
set_option maxRecDepth 100000 in
theorem c_X6_drop (l : Launch) (d : Nat) (X : Nat × (Nat → Int32)) (n : Nat) {σ : Wd} {a : SA} {np nq hr dr : Nat} {hs : List SN} {im : IM} {tp : Nat → Nat} {tl : Nat} {ln sz : Nat → Nat} {it : Nat → Nat → Int64} (hC : CA σ a np nq hr dr hs im tp tl ln sz it) (hI : WI a np nq hr dr hs im tp tl ln sz) (s : Int32) : CN l yX6_drop cX6_drop 2 (some .int) ((d + 1)) X n [.ref 0, .int s] σ (fun v σ' => v = some (.int (s_drop ln sz s)) ∧ ((if okDr ln s = true then CA σ' a np nq hr dr hs im tp tl (un ln (tN s) 0) sz it else CA σ' a np nq hr dr hs im tp tl ln sz it) ∧ Eqo 0 42 σ σ')) := by
  refine CN.of (by decide) [some (.ref 0), some (.int s)] (fun _ => Nat.le_of_ble_eq_true rfl) (fun _ => rfl) (fun cx hc => ?_)
  obtain ⟨da, dp, dq, dh, dd, hD⟩ := hC.cd
  obtain ⟨hW, hh, hdr, hwh, hwi, hU, hV⟩ := hI
  have hW1 := hW.1
  have hW2 := hW.2.1
  have hF : Eqo 0 42 σ σ := Eqo.rf
  refine R.iload_n (j := 1) (i := 1) hc rfl rfl dX6_drop_0 ?_
  refine R.cSr hc m_X3_isSheet lk_X6_229 dX6_drop_1 (c_X3_isSheet l d X n _) rfl rfl (by omega) ⟨Nat.le_refl _, Nat.le_refl _⟩ (Nat.le_of_ble_eq_true rfl) ?_
  refine R.ifB_ne (tgt := 9) hc dX6_drop_4 (by decide) (fun q1 => ?_) (fun q1 => ?_)
  rotate_left
  · refine R.iconst hc ic_m1 dX6_drop_7 ?_
    have e9 : (-1) = s_drop ln sz s := by simp [s_drop, q1]
    exact R.iret hc rfl dX6_drop_8 ⟨rfl, congrArg (fun z => some (Value.int z)) e9, by rw [if_neg (by simp [okDr, q1])]; exact hD.ca, hF⟩
  obtain ⟨i1, rfl, g1, t1⟩ := inI_tN (by decide) q1
  refine R.aload_n (j := 0) (i := 0) hc rfl rfl dX6_drop_9 ?_
  refine R.get hc gf_X6_46_r dX6_drop_10 (hD.1) rfl ?_
  refine R.iload_n (j := 1) (i := 1) hc rfl rfl dX6_drop_13 ?_
  refine R.cVr hc m_X3_isHeld lk_X6_254 dX6_drop_14 (c_X3_isHeld l d X n hD.2.2.2.2.2.2.1 hV (by omega)) (hD.2.2.2.2.2.2.1.1) rfl rfl rfl (by omega) ⟨Nat.le_refl _, Nat.le_refl _⟩ (Nat.le_of_ble_eq_true rfl) ?_
  refine R.ifB_ne (tgt := 23) hc dX6_drop_17 (by decide) (fun q2 => ?_) (fun q2 => ?_)
  rotate_left
  · have q2 : ln i1 = 0 := by simpa using q2
    refine R.bipush hc bp_m11 dX6_drop_20 ?_
    have e9 : (-11) = s_drop ln sz (nI i1) := by simp [s_drop, q1, t1, q2]
    exact R.iret hc rfl dX6_drop_22 ⟨rfl, congrArg (fun z => some (Value.int z)) e9, by rw [if_neg (by simp [okDr, t1, q2])]; exact hD.ca, hF⟩
  have q2 : ¬ ln i1 = 0 := by simpa using q2
  have hok : okDr ln (nI i1) = true := by simp [okDr, q1, t1, q2]
  have hA : s_drop ln sz (nI i1) = nI (sz i1) := by simp [s_drop, q1, t1, q2]
  rw [hA, t1] at hc
  refine R.aload_n (j := 0) (i := 0) hc rfl rfl dX6_drop_23 ?_
  refine R.get hc gf_X6_46_r dX6_drop_24 (hD.1) rfl ?_
  refine R.iload_n (j := 1) (i := 1) hc rfl rfl dX6_drop_27 ?_
  refine R.cVi hc m_X3_clear lk_X6_257 dX6_drop_28 (c_X3_clear l d X n hD.2.2.2.2.2.2.1 hV (by omega)) (hD.2.2.2.2.2.2.1.1) rfl rfl rfl (by omega) ⟨Nat.le_refl _, Nat.le_refl _⟩ (Nat.le_of_ble_eq_true rfl) (fun σ hX => ?_)
  have hD := hD.sh hX.1 hX.2
  have hF := hF.tr (hX.2.wid (by omega))
  exact R.iret hc rfl dX6_drop_31 ⟨rfl, rfl, by rw [if_pos hok]; exact hD.ca, hF⟩
set_option maxHeartbeats 4000000 in
set_option maxRecDepth 100000 in
theorem c_X6_item (l : Launch) (d : Nat) (X : Nat × (Nat → Int32)) (n : Nat) {σ : Wd} {a : SA} {np nq hr dr : Nat} {hs : List SN} {im : IM} {tp : Nat → Nat} {tl : Nat} {ln sz : Nat → Nat} {it : Nat → Nat → Int64} (hC : CA σ a np nq hr dr hs im tp tl ln sz it) (hI : WI a np nq hr dr hs im tp tl ln sz) (s l9 i : Int32) (v : Int64) : CN l yX6_item cX6_item 7 (some .int) ((d + 2)) X n [.ref 0, .int s, .int l9, .int i, .long v] σ (fun r σ' => r = some (.int (s_item ln sz s l9 i)) ∧ ((if okIt ln sz s l9 i = true then CA σ' a np nq hr dr hs im tp tl ln sz (itS it (tN s) (tN i) (cutL (tN l9) v)) else CA σ' a np nq hr dr hs im tp tl ln sz it) ∧ Eqo 0 42 σ σ')) := by
  refine CN.of (by decide) [some (.ref 0), some (.int s), some (.int l9), some (.int i), some (.long v), none, none] (fun _ => Nat.le_of_ble_eq_true rfl) (fun _ => rfl) (fun cx hc => ?_)
  obtain ⟨da, dp, dq, dh, dd, hD⟩ := hC.cd
  obtain ⟨hW, hh, hdr, hwh, hwi, hU, hV⟩ := hI
  have hW1 := hW.1
  have hW2 := hW.2.1
  have hF : Eqo 0 42 σ σ := Eqo.rf
  refine R.iload_n (j := 1) (i := 1) hc rfl rfl dX6_item_0 ?_
  refine R.cSr hc m_X3_isSheet lk_X6_229 dX6_item_1 (c_X3_isSheet l (d + 1) X n _) rfl rfl (by omega) ⟨Nat.le_refl _, Nat.le_refl _⟩ (Nat.le_of_ble_eq_true rfl) ?_
  refine R.ifB_eq (tgt := 14) hc dX6_item_4 (by decide) (fun q1 => ?_) (fun q1 => ?_)
  · refine R.iconst hc ic_m1 dX6_item_14 ?_
    have e9 : (-1) = s_item ln sz s l9 i := by simp [s_item, q1]
    exact R.iret hc rfl dX6_item_15 ⟨rfl, congrArg (fun z => some (Value.int z)) e9, by rw [if_neg (by simp [okIt, q1])]; exact hD.ca, hF⟩
  refine R.iload_n (j := 2) (i := 2) hc rfl rfl dX6_item_7 ?_
  refine R.cSr hc m_X3_isLane lk_X6_232 dX6_item_8 (c_X3_isLane l (d + 1) X n _) rfl rfl (by omega) ⟨Nat.le_refl _, Nat.le_refl _⟩ (Nat.le_of_ble_eq_true rfl) ?_
  refine R.ifB_ne (tgt := 16) hc dX6_item_11 (by decide) (fun q2 => ?_) (fun q2 => ?_)
  rotate_left
  · refine R.iconst hc ic_m1 dX6_item_14 ?_
    have e9 : (-1) = s_item ln sz s l9 i := by simp [s_item, q2]
    exact R.iret hc rfl dX6_item_15 ⟨rfl, congrArg (fun z => some (Value.int z)) e9, by rw [if_neg (by simp [okIt, q2])]; exact hD.ca, hF⟩
  obtain ⟨i1, rfl, g1, t1⟩ := inI_tN (by decide) q1
  obtain ⟨i2, rfl, g2, t2⟩ := inI_tN (by decide) q2
  refine R.aload_n (j := 0) (i := 0) hc rfl rfl dX6_item_16 ?_
  refine R.get hc gf_X6_46_r dX6_item_17 (hD.1) rfl ?_
  refine R.iload_n (j := 1) (i := 1) hc rfl rfl dX6_item_20 ?_
  refine R.iload_n (j := 2) (i := 2) hc rfl rfl dX6_item_21 ?_
  refine R.iload_n (j := 3) (i := 3) hc rfl rfl dX6_item_22 ?_
  refine R.iconst hc ic_1 dX6_item_23 ?_
  refine R.cVr hc m_X3_refusal lk_X6_235 dX6_item_24 (c_X3_refusal l d X n hD.2.2.2.2.2.2.1 hV (by omega) (by omega) _ _) (hD.2.2.2.2.2.2.1.1) rfl rfl rfl (by omega) ⟨Nat.le_refl _, Nat.le_refl _⟩ (Nat.le_of_ble_eq_true rfl) ?_
  refine R.ist6 hc dX6_item_27 (by decide) rfl ?_
  refine R.iload (i := 6) hc rfl dX6_item_29 ?_
  refine R.if_eq (tgt := 37) hc dX6_item_31 (by decide) (fun q3 => ?_) (fun q3 => ?_)
  rotate_left
  · refine R.iload (i := 6) hc rfl dX6_item_34 ?_
    have e9 : refS ln sz i1 i2 i (nI 1) = s_item ln sz (nI i1) (nI i2) i := by rw [s_item, if_pos (by simp [q1, q2]), t1, t2, if_neg (by exact q3)]; rfl
    exact R.iret hc rfl dX6_item_36 ⟨rfl, congrArg (fun z => some (Value.int z)) e9, by rw [if_neg (by simp only [okIt, t1, t2, Bool.and_eq_true, decide_eq_true_eq]; exact fun z => q3 z.2)]; exact hD.ca, hF⟩
  obtain ⟨h1, h2⟩ := refS_ok q3
  obtain ⟨i3, i4, rfl, e4, h3, t3, _⟩ := holdB_of h2
  have e4 : 1 = i4 := (nI_eq (by decide) (by have := hV i1 g1; omega)).mp e4
  have hok : okIt ln sz (nI i1) (nI i2) (nI i3) = true := by simp only [okIt, t1, t2, Bool.and_eq_true, decide_eq_true_eq]; exact ⟨⟨q1, q2⟩, q3⟩
  have hA : s_item ln sz (nI i1) (nI i2) (nI i3) = nI 1 := by rw [s_item, if_pos (by simp [q1, q2]), t1, t2, if_pos (by exact q3)]; rfl
  rw [hA, t1, t2, t3] at hc
  refine R.aload_n (j := 0) (i := 0) hc rfl rfl dX6_item_37 ?_
  refine R.get hc gf_X6_46_r dX6_item_38 (hD.1) rfl ?_
  refine R.iload_n (j := 1) (i := 1) hc rfl rfl dX6_item_41 ?_
  refine R.iload_n (j := 3) (i := 3) hc rfl rfl dX6_item_42 ?_
  refine R.lload (i := 4) hc rfl dX6_item_43 ?_
  refine R.cVu hc m_X3_put lk_X6_246 dX6_item_45 (c_X3_put l d X n hD.2.2.2.2.2.2.1 hV (by omega) (by omega) h1 (by omega) _) (hD.2.2.2.2.2.2.1.1) rfl rfl rfl (by omega) ⟨Nat.le_refl _, Nat.le_refl _⟩ (Nat.le_of_ble_eq_true rfl) (fun σ hX => ?_)
  have hD := hD.sh hX.1 hX.2
  have hF := hF.tr (hX.2.wid (by omega))
  refine R.iconst hc ic_1 dX6_item_48 ?_
  exact R.iret hc rfl dX6_item_49 ⟨rfl, rfl, by rw [if_pos hok]; exact hD.ca, hF⟩
set_option maxHeartbeats 4000000 in
set_option maxRecDepth 100000 in
theorem c_X6_copy (l : Launch) (d : Nat) (X : Nat × (Nat → Int32)) (n : Nat) {σ : Wd} {a : SA} {np nq hr dr : Nat} {hs : List SN} {im : IM} {tp : Nat → Nat} {tl : Nat} {ln sz : Nat → Nat} {it : Nat → Nat → Int64} (hC : CA σ a np nq hr dr hs im tp tl ln sz it) (hI : WI a np nq hr dr hs im tp tl ln sz) (s i t j k : Int32) : CN l yX6_copy cX6_copy 6 (some .int) ((d + 2)) X n [.ref 0, .int s, .int i, .int t, .int j, .int k] σ (fun v σ' => v = some (.int (s_copy ln sz s i t j k)) ∧ ((if okCp ln sz s i t j k = true then CA σ' a np nq hr dr hs im tp tl ln sz (itM it (tN s) (tN i) (tN t) (tN j) (tN k)) else CA σ' a np nq hr dr hs im tp tl ln sz it) ∧ Eqo 0 42 σ σ')) := by
  refine CN.of (by decide) [some (.ref 0), some (.int s), some (.int i), some (.int t), some (.int j), some (.int k)] (fun _ => Nat.le_of_ble_eq_true rfl) (fun _ => rfl) (fun cx hc => ?_)
  obtain ⟨da, dp, dq, dh, dd, hD⟩ := hC.cd
  obtain ⟨hW, hh, hdr, hwh, hwi, hU, hV⟩ := hI
  have hW1 := hW.1
  have hW2 := hW.2.1
  have hF : Eqo 0 42 σ σ := Eqo.rf
  refine R.iload_n (j := 1) (i := 1) hc rfl rfl dX6_copy_0 ?_
  refine R.cSr hc m_X3_isSheet lk_X6_229 dX6_copy_1 (c_X3_isSheet l (d + 1) X n _) rfl rfl (by omega) ⟨Nat.le_refl _, Nat.le_refl _⟩ (Nat.le_of_ble_eq_true rfl) ?_
  refine R.ifB_eq (tgt := 14) hc dX6_copy_4 (by decide) (fun q1 => ?_) (fun q1 => ?_)
  · refine R.iconst hc ic_m1 dX6_copy_14 ?_
    have e9 : (-1) = s_copy ln sz s i t j k := by simp [s_copy, q1]
    exact R.iret hc rfl dX6_copy_15 ⟨rfl, congrArg (fun z => some (Value.int z)) e9, by rw [if_neg (by simp [okCp, q1])]; exact hD.ca, hF⟩
  refine R.iload_n (j := 3) (i := 3) hc rfl rfl dX6_copy_7 ?_
  refine R.cSr hc m_X3_isSheet lk_X6_229 dX6_copy_8 (c_X3_isSheet l (d + 1) X n _) rfl rfl (by omega) ⟨Nat.le_refl _, Nat.le_refl _⟩ (Nat.le_of_ble_eq_true rfl) ?_
  refine R.ifB_ne (tgt := 16) hc dX6_copy_11 (by decide) (fun q2 => ?_) (fun q2 => ?_)
  rotate_left
  · refine R.iconst hc ic_m1 dX6_copy_14 ?_
    have e9 : (-1) = s_copy ln sz s i t j k := by simp [s_copy, q2]
    exact R.iret hc rfl dX6_copy_15 ⟨rfl, congrArg (fun z => some (Value.int z)) e9, by rw [if_neg (by simp [okCp, q2])]; exact hD.ca, hF⟩
  obtain ⟨i1, rfl, g1, t1⟩ := inI_tN (by decide) q1
  obtain ⟨i2, rfl, g2, t2⟩ := inI_tN (by decide) q2
  have hv1 := hV i1 g1
  have hv2 := hV i2 g2
  have no : ∀ x, cpS ln sz i1 i2 i j k = x → ¬ x = 0 → x = s_copy ln sz (nI i1) i (nI i2) j k ∧ ¬ okCp ln sz (nI i1) i (nI i2) j k = true := by
    intro x hx hn
    subst hx
    refine ⟨by rw [s_copy, if_pos (by simp [q1, q2]), t1, t2, if_neg hn], ?_⟩
    simp only [okCp, t1, t2, Bool.and_eq_true, decide_eq_true_eq]
    exact fun z => hn z.2
  refine R.aload_n (j := 0) (i := 0) hc rfl rfl dX6_copy_16 ?_
  refine R.get hc gf_X6_46_r dX6_copy_17 (hD.1) rfl ?_
  refine R.iload_n (j := 1) (i := 1) hc rfl rfl dX6_copy_20 ?_
  refine R.cVr hc m_X3_isHeld lk_X6_254 dX6_copy_21 (c_X3_isHeld l (d + 1) X n hD.2.2.2.2.2.2.1 hV (by omega)) (hD.2.2.2.2.2.2.1.1) rfl rfl rfl (by omega) ⟨Nat.le_refl _, Nat.le_refl _⟩ (Nat.le_of_ble_eq_true rfl) ?_
  refine R.ifB_eq (tgt := 38) hc dX6_copy_24 (by decide) (fun q3 => ?_) (fun q3 => ?_)
  · have q3 : ln i1 = 0 := by simpa using q3
    refine R.bipush hc bp_m11 dX6_copy_38 ?_
    have e9 := no (-11) (by rw [cpS, if_pos (Or.inl q3)]) (by decide)
    exact R.iret hc rfl dX6_copy_40 ⟨rfl, congrArg (fun z => some (Value.int z)) e9.1, by rw [if_neg e9.2]; exact hD.ca, hF⟩
  have q3 : ¬ ln i1 = 0 := by simpa using q3
  refine R.aload_n (j := 0) (i := 0) hc rfl rfl dX6_copy_27 ?_
  refine R.get hc gf_X6_46_r dX6_copy_28 (hD.1) rfl ?_
  refine R.iload_n (j := 3) (i := 3) hc rfl rfl dX6_copy_31 ?_
  refine R.cVr hc m_X3_isHeld lk_X6_254 dX6_copy_32 (c_X3_isHeld l (d + 1) X n hD.2.2.2.2.2.2.1 hV (by omega)) (hD.2.2.2.2.2.2.1.1) rfl rfl rfl (by omega) ⟨Nat.le_refl _, Nat.le_refl _⟩ (Nat.le_of_ble_eq_true rfl) ?_
  refine R.ifB_ne (tgt := 41) hc dX6_copy_35 (by decide) (fun q4 => ?_) (fun q4 => ?_)
  rotate_left
  · have q4 : ln i2 = 0 := by simpa using q4
    refine R.bipush hc bp_m11 dX6_copy_38 ?_
    have e9 := no (-11) (by rw [cpS, if_pos (Or.inr q4)]) (by decide)
    exact R.iret hc rfl dX6_copy_40 ⟨rfl, congrArg (fun z => some (Value.int z)) e9.1, by rw [if_neg e9.2]; exact hD.ca, hF⟩
  have q4 : ¬ ln i2 = 0 := by simpa using q4
  obtain ⟨f1, k1, k1v⟩ := hD.2.2.2.2.2.2.1.2.1
  refine R.aload_n (j := 0) (i := 0) hc rfl rfl dX6_copy_41 ?_
  refine R.get hc gf_X6_46_r dX6_copy_42 (hD.1) rfl ?_
  refine R.get hc gf_X6_260 dX6_copy_45 (hD.2.2.2.2.2.2.1.1) rfl ?_
  refine R.iload_n (j := 1) (i := 1) hc rfl rfl dX6_copy_48 ?_
  refine R.iald hc k1 (by omega) (by decide) dX6_copy_49 ?_
  rw [k1v i1 g1]
  refine R.aload_n (j := 0) (i := 0) hc rfl rfl dX6_copy_50 ?_
  refine R.get hc gf_X6_46_r dX6_copy_51 (hD.1) rfl ?_
  refine R.get hc gf_X6_260 dX6_copy_54 (hD.2.2.2.2.2.2.1.1) rfl ?_
  refine R.iload_n (j := 3) (i := 3) hc rfl rfl dX6_copy_57 ?_
  refine R.iald hc k1 (by omega) (by decide) dX6_copy_58 ?_
  rw [k1v i2 g2]
  have hln : lnI (ln i1) = lnI (ln i2) ↔ ln i1 = ln i2 := by
    obtain ⟨c, hcv⟩ : ∃ c, ln i2 = c + 1 := ⟨ln i2 - 1, by omega⟩
    rw [hcv]
    exact lnI_eq (by omega) (by omega)
  refine R.icmp_eq (tgt := 65) hc dX6_copy_59 (by decide) (fun q5 => ?_) (fun q5 => ?_)
  rotate_left
  · refine R.bipush hc bp_m12 dX6_copy_62 ?_
    have e9 := no (-12) (by rw [cpS, if_neg (by omega), if_neg (fun z => q5 (hln.mpr z))]) (by decide)
    exact R.iret hc rfl dX6_copy_64 ⟨rfl, congrArg (fun z => some (Value.int z)) e9.1, by rw [if_neg e9.2]; exact hD.ca, hF⟩
  have q5 := hln.mp q5
  refine R.aload_n (j := 0) (i := 0) hc rfl rfl dX6_copy_65 ?_
  refine R.get hc gf_X6_46_r dX6_copy_66 (hD.1) rfl ?_
  refine R.iload_n (j := 1) (i := 1) hc rfl rfl dX6_copy_69 ?_
  refine R.iload_n (j := 2) (i := 2) hc rfl rfl dX6_copy_70 ?_
  refine R.iload (i := 5) hc rfl dX6_copy_71 ?_
  refine R.cVr hc m_X3_holds lk_X6_263 dX6_copy_73 (c_X3_holds l (d + 1) X n hD.2.2.2.2.2.2.1 hV (by omega) _ _) (hD.2.2.2.2.2.2.1.1) rfl rfl rfl (by omega) ⟨Nat.le_refl _, Nat.le_refl _⟩ (Nat.le_of_ble_eq_true rfl) ?_
  refine R.ifB_eq (tgt := 94) hc dX6_copy_76 (by decide) (fun q6 => ?_) (fun q6 => ?_)
  · refine R.bipush hc bp_m13 dX6_copy_94 ?_
    have e9 := no (-13) (by rw [cpS, if_neg (by omega), if_pos q5, q6]; rfl) (by decide)
    exact R.iret hc rfl dX6_copy_96 ⟨rfl, congrArg (fun z => some (Value.int z)) e9.1, by rw [if_neg e9.2]; exact hD.ca, hF⟩
  refine R.aload_n (j := 0) (i := 0) hc rfl rfl dX6_copy_79 ?_
  refine R.get hc gf_X6_46_r dX6_copy_80 (hD.1) rfl ?_
  refine R.iload_n (j := 3) (i := 3) hc rfl rfl dX6_copy_83 ?_
  refine R.iload (i := 4) hc rfl dX6_copy_84 ?_
  refine R.iload (i := 5) hc rfl dX6_copy_86 ?_
  refine R.cVr hc m_X3_holds lk_X6_263 dX6_copy_88 (c_X3_holds l (d + 1) X n hD.2.2.2.2.2.2.1 hV (by omega) _ _) (hD.2.2.2.2.2.2.1.1) rfl rfl rfl (by omega) ⟨Nat.le_refl _, Nat.le_refl _⟩ (Nat.le_of_ble_eq_true rfl) ?_
  refine R.ifB_ne (tgt := 97) hc dX6_copy_91 (by decide) (fun q7 => ?_) (fun q7 => ?_)
  rotate_left
  · refine R.bipush hc bp_m13 dX6_copy_94 ?_
    have e9 := no (-13) (by rw [cpS, if_neg (by omega), if_pos q5, q6, q7]; rfl) (by decide)
    exact R.iret hc rfl dX6_copy_96 ⟨rfl, congrArg (fun z => some (Value.int z)) e9.1, by rw [if_neg e9.2]; exact hD.ca, hF⟩
  have hcp : cpS ln sz i1 i2 i j k = 0 := by rw [cpS, if_neg (by omega), if_pos q5, q6, q7]; rfl
  obtain ⟨i3, k3, rfl, rfl, h3, t3, tk⟩ := holdB_of q6
  obtain ⟨i4, k4, rfl, ek, h4, t4, _⟩ := holdB_of q7
  have ek : k3 = k4 := (nI_eq (by omega) (by omega)).mp ek
  subst ek
  have hok : okCp ln sz (nI i1) (nI i3) (nI i2) (nI i4) (nI k3) = true := by simp only [okCp, t1, t2, Bool.and_eq_true, decide_eq_true_eq]; exact ⟨⟨q1, q2⟩, hcp⟩
  have hA : s_copy ln sz (nI i1) (nI i3) (nI i2) (nI i4) (nI k3) = nI k3 := by rw [s_copy, if_pos (by simp [q1, q2]), t1, t2, if_pos hcp]
  rw [hA, t1, t2, t3, t4, tk] at hc
  refine R.aload_n (j := 0) (i := 0) hc rfl rfl dX6_copy_97 ?_
  refine R.get hc gf_X6_46_r dX6_copy_98 (hD.1) rfl ?_
  refine R.iload_n (j := 1) (i := 1) hc rfl rfl dX6_copy_101 ?_
  refine R.iload_n (j := 2) (i := 2) hc rfl rfl dX6_copy_102 ?_
  refine R.iload_n (j := 3) (i := 3) hc rfl rfl dX6_copy_103 ?_
  refine R.iload (i := 4) hc rfl dX6_copy_104 ?_
  refine R.iload (i := 5) hc rfl dX6_copy_106 ?_
  refine R.cVu hc m_X3_move lk_X6_266 dX6_copy_108 (c_X3_move l d X n hD.2.2.2.2.2.2.1 hV (by omega) (by omega) (by omega) (by omega)) (hD.2.2.2.2.2.2.1.1) rfl rfl rfl (by omega) ⟨Nat.le_refl _, Nat.le_refl _⟩ (Nat.le_of_ble_eq_true rfl) (fun σ hX => ?_)
  have hD := hD.sh hX.1 hX.2
  have hF := hF.tr (hX.2.wid (by omega))
  refine R.iload (i := 5) hc rfl dX6_copy_111 ?_
  exact R.iret hc rfl dX6_copy_113 ⟨rfl, rfl, by rw [if_pos hok]; exact hD.ca, hF⟩
/-- a film of a puddle: the first k items -/
def flm (A : Nat → Nat) (it : Nat → Nat → Int64) (s i l9 : Nat) : Nat → Nat → Nat → Int64
  | 0 => it
  | k + 1 => itS (flm A it s i l9 k) s (i + k) (cutL l9 (nI (A (k + 1))).toInt64)
def okF (np : Nat) (ln sz : Nat → Nat) (p k s l9 i : Int32) : Bool := inI p np && inR k 1 24 && inI s 4 && inI l9 4 && decide (refS ln sz (tN s) (tN l9) i k = 0)
def s_film (np : Nat) (ln sz : Nat → Nat) (p k s l9 i : Int32) : Int32 := if inI p np && inR k 1 24 && inI s 4 && inI l9 4 then (if refS ln sz (tN s) (tN l9) i k = 0 then k else refS ln sz (tN s) (tN l9) i k) else -1
set_option maxHeartbeats 4000000 in
set_option maxRecDepth 100000 in
theorem c_X6_film (l : Launch) (d : Nat) (X : Nat × (Nat → Int32)) (n : Nat) {σ : Wd} {a : SA} {np nq hr dr : Nat} {hs : List SN} {im : IM} {tp : Nat → Nat} {tl : Nat} {ln sz : Nat → Nat} {it : Nat → Nat → Int64} (hC : CA σ a np nq hr dr hs im tp tl ln sz it) (hI : WI a np nq hr dr hs im tp tl ln sz) (p w s l9 i : Int32) : CN l yX6_film cX6_film 8 (some .int) ((d + 4)) X n [.ref 0, .int p, .int w, .int s, .int l9, .int i] σ (fun v σ' => v = some (.int (s_film np ln sz p w s l9 i)) ∧ ((if okF np ln sz p w s l9 i = true then CA σ' a np nq hr dr hs im tp tl ln sz (flm (fun k => (hoursN a np nq hr k) 2 (tN p)) it (tN s) (tN i) (tN l9) (tN w)) else CA σ' a np nq hr dr hs im tp tl ln sz it) ∧ Eqo 0 42 σ σ')) := by
  refine CN.of (by decide) [some (.ref 0), some (.int p), some (.int w), some (.int s), some (.int l9), some (.int i), none, none] (fun _ => Nat.le_of_ble_eq_true rfl) (fun _ => rfl) (fun cx hc => ?_)
  obtain ⟨da, dp, dq, dh, dd, hD⟩ := hC.cd
  obtain ⟨hW, hh, hdr, hwh, hwi, hU, hV⟩ := hI
  have hW1 := hW.1
  have hW2 := hW.2.1
  obtain ⟨σ0, hσ0⟩ : ∃ z, z = σ := ⟨_, rfl⟩
  have hF : Eqo 0 42 σ0 σ := by rw [hσ0]; exact Eqo.rf
  refine R.aload_n (j := 0) (i := 0) hc rfl rfl dX6_film_0 ?_
  refine R.get hc gf_X6_10_r dX6_film_1 (hD.1) rfl ?_
  refine R.iload_n (j := 1) (i := 1) hc rfl rfl dX6_film_4 ?_
  refine R.cVr hc m_X4_hasPuddle lk_X6_85 dX6_film_5 (c_X4_hasPuddle l (d + 3) X n hD.2.1 hW _) (hD.2.1.obj) rfl rfl rfl (by omega) ⟨Nat.le_refl _, Nat.le_refl _⟩ (Nat.le_of_ble_eq_true rfl) ?_
  refine R.ifB_eq (tgt := 21) hc dX6_film_8 (by decide) (fun q1 => ?_) (fun q1 => ?_)
  · refine R.iconst hc ic_m1 dX6_film_21 ?_
    have e9 : (-1) = s_film np ln sz p w s l9 i := by simp [s_film, q1]
    exact R.iret hc rfl dX6_film_22 ⟨rfl, congrArg (fun z => some (Value.int z)) e9, by rw [if_neg (by simp [okF, q1])]; exact hD.ca, (by have h9 := hF; rw [hσ0] at h9; exact h9)⟩
  refine R.iload_n (j := 2) (i := 2) hc rfl rfl dX6_film_11 ?_
  refine R.iconst hc ic_1 dX6_film_12 ?_
  refine R.bipush hc bp_24 dX6_film_13 ?_
  refine R.cSr hc m_X6_within lk_X6_64 dX6_film_15 (c_X6_within l (d + 3) X n _ _ _) rfl rfl (by omega) ⟨Nat.le_refl _, Nat.le_refl _⟩ (Nat.le_of_ble_eq_true rfl) ?_
  refine R.ifB_ne (tgt := 23) hc dX6_film_18 (by decide) (fun q2 => ?_) (fun q2 => ?_)
  rotate_left
  · refine R.iconst hc ic_m1 dX6_film_21 ?_
    have e9 : (-1) = s_film np ln sz p w s l9 i := by simp [s_film, q2]
    exact R.iret hc rfl dX6_film_22 ⟨rfl, congrArg (fun z => some (Value.int z)) e9, by rw [if_neg (by simp [okF, q2])]; exact hD.ca, (by have h9 := hF; rw [hσ0] at h9; exact h9)⟩
  refine R.iload_n (j := 3) (i := 3) hc rfl rfl dX6_film_23 ?_
  refine R.cSr hc m_X3_isSheet lk_X6_229 dX6_film_24 (c_X3_isSheet l (d + 3) X n _) rfl rfl (by omega) ⟨Nat.le_refl _, Nat.le_refl _⟩ (Nat.le_of_ble_eq_true rfl) ?_
  refine R.ifB_eq (tgt := 38) hc dX6_film_27 (by decide) (fun q3 => ?_) (fun q3 => ?_)
  · refine R.iconst hc ic_m1 dX6_film_38 ?_
    have e9 : (-1) = s_film np ln sz p w s l9 i := by simp [s_film, q3]
    exact R.iret hc rfl dX6_film_39 ⟨rfl, congrArg (fun z => some (Value.int z)) e9, by rw [if_neg (by simp [okF, q3])]; exact hD.ca, (by have h9 := hF; rw [hσ0] at h9; exact h9)⟩
  refine R.iload (i := 4) hc rfl dX6_film_30 ?_
  refine R.cSr hc m_X3_isLane lk_X6_232 dX6_film_32 (c_X3_isLane l (d + 3) X n _) rfl rfl (by omega) ⟨Nat.le_refl _, Nat.le_refl _⟩ (Nat.le_of_ble_eq_true rfl) ?_
  refine R.ifB_ne (tgt := 40) hc dX6_film_35 (by decide) (fun q4 => ?_) (fun q4 => ?_)
  rotate_left
  · refine R.iconst hc ic_m1 dX6_film_38 ?_
    have e9 : (-1) = s_film np ln sz p w s l9 i := by simp [s_film, q4]
    exact R.iret hc rfl dX6_film_39 ⟨rfl, congrArg (fun z => some (Value.int z)) e9, by rw [if_neg (by simp [okF, q4])]; exact hD.ca, (by have h9 := hF; rw [hσ0] at h9; exact h9)⟩
  obtain ⟨i1, rfl, g1, t1⟩ := inI_tN (by omega) q1
  obtain ⟨i2, rfl, _, g2, t2⟩ := inR_of (by decide) (by decide) q2
  obtain ⟨i3, rfl, g3, t3⟩ := inI_tN (by decide) q3
  obtain ⟨i4, rfl, g4, t4⟩ := inI_tN (by decide) q4
  have hv := hV i3 g3
  refine R.aload_n (j := 0) (i := 0) hc rfl rfl dX6_film_40 ?_
  refine R.get hc gf_X6_46_r dX6_film_41 (hD.1) rfl ?_
  refine R.iload_n (j := 3) (i := 3) hc rfl rfl dX6_film_44 ?_
  refine R.iload (i := 4) hc rfl dX6_film_45 ?_
  refine R.iload (i := 5) hc rfl dX6_film_47 ?_
  refine R.iload_n (j := 2) (i := 2) hc rfl rfl dX6_film_49 ?_
  refine R.cVr hc m_X3_refusal lk_X6_235 dX6_film_50 (c_X3_refusal l (d + 2) X n hD.2.2.2.2.2.2.1 hV (by omega) (by omega) _ _) (hD.2.2.2.2.2.2.1.1) rfl rfl rfl (by omega) ⟨Nat.le_refl _, Nat.le_refl _⟩ (Nat.le_of_ble_eq_true rfl) ?_
  refine R.ist6 hc dX6_film_53 (by decide) rfl ?_
  refine R.iload (i := 6) hc rfl dX6_film_55 ?_
  refine R.if_eq (tgt := 63) hc dX6_film_57 (by decide) (fun q5 => ?_) (fun q5 => ?_)
  rotate_left
  · refine R.iload (i := 6) hc rfl dX6_film_60 ?_
    have e9 : refS ln sz i3 i4 i (nI i2) = s_film np ln sz (nI i1) (nI i2) (nI i3) (nI i4) i := by rw [s_film, if_pos (by simp [q1, q2, q3, q4]), t3, t4, if_neg q5]
    exact R.iret hc rfl dX6_film_62 ⟨rfl, congrArg (fun z => some (Value.int z)) e9, by rw [if_neg (by simp only [okF, t3, t4, Bool.and_eq_true, decide_eq_true_eq]; exact fun z => q5 z.2)]; exact hD.ca, (by have h9 := hF; rw [hσ0] at h9; exact h9)⟩
  obtain ⟨h1, h2⟩ := refS_ok q5
  obtain ⟨i5, k5, rfl, e5, h3, t5, _⟩ := holdB_of h2
  have e5 : i2 = k5 := (nI_eq (by omega) (by omega)).mp e5
  subst e5
  have hok : okF np ln sz (nI i1) (nI i2) (nI i3) (nI i4) (nI i5) = true := by simp only [okF, t3, t4, Bool.and_eq_true, decide_eq_true_eq]; exact ⟨⟨⟨⟨q1, q2⟩, q3⟩, q4⟩, q5⟩
  have hA : s_film np ln sz (nI i1) (nI i2) (nI i3) (nI i4) (nI i5) = nI i2 := by rw [s_film, if_pos (by simp [q1, q2, q3, q4]), t3, t4, if_pos q5]
  rw [hA, t1, t2, t3, t4, t5] at hc
  refine R.aload_n (j := 0) (i := 0) hc rfl rfl dX6_film_63 ?_
  refine R.get hc gf_X6_23_r dX6_film_64 (hD.1) rfl ?_
  refine R.aload_n (j := 0) (i := 0) hc rfl rfl dX6_film_67 ?_
  refine R.get hc gf_X6_10_r dX6_film_68 (hD.1) rfl ?_
  refine R.cVu hc m_X4_copyFrom lk_X6_140 dX6_film_71 (c_X4_copyFrom l (d + 2) X n hD.2.2.2.1 hD.2.1 hW1 hW2 (by omega)) (hD.2.2.2.1.obj) rfl rfl rfl (by omega) ⟨Nat.le_refl _, Nat.le_refl _⟩ (Nat.le_of_ble_eq_true rfl) (fun σ hX => ?_)
  have hD := hD.w hX.1 hX.2
  have hF := hF.tr (hX.2.wid (by omega))
  refine R.iconst hc ic_0 dX6_film_74 ?_
  refine R.ist7 hc dX6_film_75 (by decide) rfl ?_
  refine rl_down (P := fun k => ∀ σ1, CD σ1 (hoursN a np nq hr k) np nq (hr + k) dr a np nq hr dr hs im tp tl ln sz (flm (fun k => (hoursN a np nq hr k) 2 i1) it i3 i5 i4 k) → Eqo 0 42 σ0 σ1 → R cx 0 0 n σ1 77 [some (.ref 0), some (.int (nI i1)), some (.int (nI i2)), some (.int (nI i3)), some (.int (nI i4)), some (.int (nI i5)), some (.int (refS ln sz i3 i4 (nI i5) (nI i2))), some (.int (nI k))] []) i2 (fun σ hD hF => ?_) (fun k hk ih σ hD hF => ?_) 0 (Nat.zero_le _) σ hD hF
  · refine R.iload (i := 7) hc rfl dX6_film_77 ?_
    refine R.iload_n (j := 2) (i := 2) hc rfl rfl dX6_film_79 ?_
    refine R.icmpN_ge (tgt := 119) hc dX6_film_80 (by decide) (by omega) (by omega) (fun _ => ?_) (fun q => absurd (Nat.le_refl _) q)
    refine R.iload_n (j := 2) (i := 2) hc rfl rfl dX6_film_119 ?_
    exact R.iret hc rfl dX6_film_120 ⟨rfl, rfl, by rw [if_pos hok]; exact hD.ca, (by have h9 := hF; rw [hσ0] at h9; exact h9)⟩
  · refine R.iload (i := 7) hc rfl dX6_film_77 ?_
    refine R.iload_n (j := 2) (i := 2) hc rfl rfl dX6_film_79 ?_
    refine R.icmpN_ge (tgt := 119) hc dX6_film_80 (by decide) (by omega) (by omega) (fun q => absurd q (by omega)) (fun _ => ?_)
    refine R.aload_n (j := 0) (i := 0) hc rfl rfl dX6_film_83 ?_
    refine R.get hc gf_X6_23_r dX6_film_84 (hD.1) rfl ?_
    refine R.cVu hc m_X4_passHour lk_X6_189 dX6_film_87 (c_X4_passHour l d X n hD.2.2.2.1 (WF_hoursN hW k) (by omega)) (hD.2.2.2.1.obj) rfl rfl rfl (by omega) ⟨Nat.le_refl _, Nat.le_refl _⟩ (Nat.le_of_ble_eq_true rfl) (fun σ hX => ?_)
    have hD := hD.w hX.1 hX.2
    have hF := hF.tr (hX.2.wid (by omega))
    refine R.aload_n (j := 0) (i := 0) hc rfl rfl dX6_film_90 ?_
    refine R.get hc gf_X6_46_r dX6_film_91 (hD.1) rfl ?_
    refine R.iload_n (j := 3) (i := 3) hc rfl rfl dX6_film_94 ?_
    refine R.iload (i := 5) hc rfl dX6_film_95 ?_
    refine R.iload (i := 7) hc rfl dX6_film_97 ?_
    first | refine R.iaddN hc dX6_film_99 ?_ | refine R.iadd hc dX6_film_99 ?_
    refine R.aload_n (j := 0) (i := 0) hc rfl rfl dX6_film_100 ?_
    refine R.get hc gf_X6_23_r dX6_film_101 (hD.1) rfl ?_
    refine R.get hc gf_X6_95 dX6_film_104 (hD.2.2.2.1.obj) rfl ?_
    refine R.iload_n (j := 1) (i := 1) hc rfl rfl dX6_film_107 ?_
    refine R.ialdE hc dX6_film_108 (hD.2.2.2.1.r2 (by omega)) (by omega) (by decide) ?_
    refine R.i2l hc dX6_film_109 ?_
    refine R.cVu hc m_X3_put lk_X6_246 dX6_film_110 (c_X3_put l (d + 2) X n hD.2.2.2.2.2.2.1 hV (by omega) (by omega) h1 (by omega) _) (hD.2.2.2.2.2.2.1.1) rfl rfl rfl (by omega) ⟨Nat.le_refl _, Nat.le_refl _⟩ (Nat.le_of_ble_eq_true rfl) (fun σ hX => ?_)
    have hD := hD.sh hX.1 hX.2
    have hF := hF.tr (hX.2.wid (by omega))
    refine R.iinc7 hc dX6_film_113 (iiN1 _) (by decide) rfl ?_
    refine R.goto (tgt := 77) hc dX6_film_116 (by decide) ?_
    exact ih σ hD hF
/-- whether a row of items tells these depths, j of them from k on -/
def agB (it : Nat → Nat → Int64) (s i : Nat) (A : Nat → Nat) : Nat → Nat → Bool
  | 0, _ => true
  | j + 1, k => if it s (i + k) = (nI (A (k + 1))).toInt64 then agB it s i A j (k + 1) else false
theorem lcmp0 (x y : Int64) : lg_cmp x y = 0 ↔ x = y := by
  unfold lg_cmp
  by_cases h1 : y < x
  · simp [h1]
    intro h
    rw [h] at h1
    exact absurd h1 Int64.lt_irrefl
  · by_cases h2 : x = y
    · simp [h2]
    · simp [h1, h2]
set_option maxHeartbeats 4000000 in
set_option maxRecDepth 100000 in
theorem c_X6_draftAgrees (l : Launch) (d : Nat) (X : Nat × (Nat → Int32)) (n : Nat) {σ : Wd} {a : SA} {np nq hr dr : Nat} {hs : List SN} {im : IM} {tp : Nat → Nat} {tl : Nat} {ln sz : Nat → Nat} {it : Nat → Nat → Int64} {a9 : SA} {p s i w : Nat} (hD : CD σ a9 np nq hr dr a np nq hr dr hs im tp tl ln sz it) (hI : WI a np nq hr dr hs im tp tl ln sz) (hW9 : WF a9 np nq) (hp : p < np) (hs4 : s < 4) (hi : i + w ≤ sz s) (hw : w ≤ 8) : CN l yX6_draftAgrees cX6_draftAgrees 6 (some .boolean) ((d + 4)) X n [.ref 0, .int (nI p), .int (nI s), .int (nI i), .int (nI w)] σ (fun v σ' => v = some (.int (b2 (agB it s i (fun k => (hoursN a9 np nq hr k) 2 p) w 0))) ∧ (CA σ' a np nq hr dr hs im tp tl ln sz it ∧ Eqo 0 42 σ σ')) := by
  refine CN.of (by decide) [some (.ref 0), some (.int (nI p)), some (.int (nI s)), some (.int (nI i)), some (.int (nI w)), none] (fun _ => Nat.le_of_ble_eq_true rfl) (fun _ => rfl) (fun cx hc => ?_)
  obtain ⟨hW, hh, hdr, hwh, hwi, hU, hV⟩ := hI
  have hW1 := hW.1
  have hW2 := hW.2.1
  have hv := hV s hs4
  obtain ⟨σ0, hσ0⟩ : ∃ z, z = σ := ⟨_, rfl⟩
  have hF : Eqo 0 42 σ0 σ := by rw [hσ0]; exact Eqo.rf
  obtain ⟨ans, hans⟩ : ∃ z, z = agB it s i (fun k => (hoursN a9 np nq hr k) 2 p) w 0 := ⟨_, rfl⟩
  rw [← hans] at hc
  have key : ∀ j k σ1, k + j = w → agB it s i (fun k => (hoursN a9 np nq hr k) 2 p) j k = ans → CD σ1 (hoursN a9 np nq hr k) np nq (hr + k) dr a np nq hr dr hs im tp tl ln sz it → Eqo 0 42 σ0 σ1 → R cx 0 0 n σ1 3 [some (.ref 0), some (.int (nI p)), some (.int (nI s)), some (.int (nI i)), some (.int (nI w)), some (.int (nI k))] [] := by
    intro j
    induction j with
    | zero =>
      intro k σ hk e hD hF
      refine R.iload (i := 5) hc rfl dX6_draftAgrees_3 ?_
      refine R.iload (i := 4) hc rfl dX6_draftAgrees_5 ?_
      refine R.icmpN_ge (tgt := 51) hc dX6_draftAgrees_7 (by decide) (by omega) (by omega) (fun _ => ?_) (fun z => absurd (by omega) z)
      refine R.iconst hc ic_1 dX6_draftAgrees_51 ?_
      rw [agB] at e
      subst e
      exact R.bret (c := true) hc rfl dX6_draftAgrees_52 rfl ⟨rfl, rfl, hD.ca, (by have h9 := hF; rw [hσ0] at h9; exact h9)⟩
    | succ j ih =>
      intro k σ hk e hD hF
      rw [agB] at e
      refine R.iload (i := 5) hc rfl dX6_draftAgrees_3 ?_
      refine R.iload (i := 4) hc rfl dX6_draftAgrees_5 ?_
      refine R.icmpN_ge (tgt := 51) hc dX6_draftAgrees_7 (by decide) (by omega) (by omega) (fun z => absurd z (by omega)) (fun _ => ?_)
      refine R.aload_n (j := 0) (i := 0) hc rfl rfl dX6_draftAgrees_10 ?_
      refine R.get hc gf_X6_23_r dX6_draftAgrees_11 (hD.1) rfl ?_
      refine R.cVu hc m_X4_passHour lk_X6_189 dX6_draftAgrees_14 (c_X4_passHour l d X n hD.2.2.2.1 (WF_hoursN hW9 k) (by omega)) (hD.2.2.2.1.obj) rfl rfl rfl (by omega) ⟨Nat.le_refl _, Nat.le_refl _⟩ (Nat.le_of_ble_eq_true rfl) (fun σ hX => ?_)
      have hD := hD.w hX.1 hX.2
      have hF := hF.tr (hX.2.wid (by omega))
      refine R.aload_n (j := 0) (i := 0) hc rfl rfl dX6_draftAgrees_17 ?_
      refine R.get hc gf_X6_46_r dX6_draftAgrees_18 (hD.1) rfl ?_
      refine R.iload_n (j := 2) (i := 2) hc rfl rfl dX6_draftAgrees_21 ?_
      refine R.iload_n (j := 3) (i := 3) hc rfl rfl dX6_draftAgrees_22 ?_
      refine R.iload (i := 5) hc rfl dX6_draftAgrees_23 ?_
      first | refine R.iaddN hc dX6_draftAgrees_25 ?_ | refine R.iadd hc dX6_draftAgrees_25 ?_
      refine R.cVm hc m_X3_valueAt lk_X6_277 dX6_draftAgrees_26 (c_X3_valueAt l (d + 3) X n hD.2.2.2.2.2.2.1 hV (by omega) (by omega)) (hD.2.2.2.2.2.2.1.1) rfl rfl rfl (by omega) ⟨Nat.le_refl _, Nat.le_refl _⟩ (Nat.le_of_ble_eq_true rfl) ?_
      refine R.aload_n (j := 0) (i := 0) hc rfl rfl dX6_draftAgrees_29 ?_
      refine R.get hc gf_X6_23_r dX6_draftAgrees_30 (hD.1) rfl ?_
      refine R.get hc gf_X6_95 dX6_draftAgrees_33 (hD.2.2.2.1.obj) rfl ?_
      refine R.iload_n (j := 1) (i := 1) hc rfl rfl dX6_draftAgrees_36 ?_
      refine R.ialdE hc dX6_draftAgrees_37 (hD.2.2.2.1.r2 (by omega)) (by omega) (by decide) ?_
      refine R.i2l hc dX6_draftAgrees_38 ?_
      refine R.lcmp hc dX6_draftAgrees_39 ?_
      refine R.if_eq (tgt := 45) hc dX6_draftAgrees_40 (by decide) (fun z => ?_) (fun z => ?_)
      · have z : it s (i + k) = (nI (hoursN a9 np nq hr (k + 1) 2 p)).toInt64 := (lcmp0 _ _).mp z
        rw [if_pos z] at e
        refine R.iinc5 hc dX6_draftAgrees_45 (iiN1 _) (by decide) rfl ?_
        refine R.goto (tgt := 3) hc dX6_draftAgrees_48 (by decide) ?_
        exact ih (k + 1) σ (by omega) e hD hF
      · rw [if_neg (show ¬ it s (i + k) = (nI (hoursN a9 np nq hr (k + 1) 2 p)).toInt64 from fun y => z ((lcmp0 _ _).mpr y))] at e
        subst e
        refine R.iconst hc ic_0 dX6_draftAgrees_43 ?_
        exact R.bret (c := false) hc rfl dX6_draftAgrees_44 rfl ⟨rfl, rfl, hD.ca, (by have h9 := hF; rw [hσ0] at h9; exact h9)⟩
  refine R.iconst hc ic_0 dX6_draftAgrees_0 ?_
  refine R.ist5 hc dX6_draftAgrees_1 (by decide) rfl ?_
  exact key w 0 σ (by omega) hans.symm hD hF
set_option maxHeartbeats 4000000 in
set_option maxRecDepth 100000 in
theorem c_X6_kindsDipped (l : Launch) (d : Nat) (X : Nat × (Nat → Int32)) (n : Nat) {σ : Wd} {a : SA} {np nq hr dr : Nat} {hs : List SN} {im : IM} {tp : Nat → Nat} {tl : Nat} {ln sz : Nat → Nat} {it : Nat → Nat → Int64} (hC : CA σ a np nq hr dr hs im tp tl ln sz it) (hI : WI a np nq hr dr hs im tp tl ln sz) {p s i w : Nat} (hp : p < np) (hs4 : s < 4) (hi : i + w ≤ sz s) (hw : w ≤ 8) : CN l yX6_kindsDipped cX6_kindsDipped 7 (some .int) ((d + 5)) X n [.ref 0, .int (nI p), .int (nI s), .int (nI i), .int (nI w)] σ (fun v σ' => v = some (.int (nI (bsN (fun v => agB it s i (fun k => hoursN (a2 a 0 p v) np nq hr k 2 p) w 0) 5))) ∧ (CA σ' a np nq hr dr hs im tp tl ln sz it ∧ Eqo 0 42 σ σ')) := by
  refine CN.of (by decide) [some (.ref 0), some (.int (nI p)), some (.int (nI s)), some (.int (nI i)), some (.int (nI w)), none, none] (fun _ => Nat.le_of_ble_eq_true rfl) (fun _ => rfl) (fun cx hc => ?_)
  have hI0 := hI
  obtain ⟨hW, hh, hdr, hwh, hwi, hU, hV⟩ := hI0
  have hW1 := hW.1
  have hW2 := hW.2.1
  have hF : Eqo 0 42 σ σ := Eqo.rf
  refine R.iconst hc ic_0 dX6_kindsDipped_0 ?_
  refine R.ist5 hc dX6_kindsDipped_1 (by decide) rfl ?_
  refine R.iconst hc ic_0 dX6_kindsDipped_3 ?_
  refine R.ist6 hc dX6_kindsDipped_4 (by decide) rfl ?_
  refine rl_down (P := fun v => ∀ σ1, CA σ1 a np nq hr dr hs im tp tl ln sz it → Eqo 0 42 σ σ1 → R cx 0 0 n σ1 6 [some (.ref 0), some (.int (nI p)), some (.int (nI s)), some (.int (nI i)), some (.int (nI w)), some (.int (nI (bsN (fun v => agB it s i (fun k => hoursN (a2 a 0 p v) np nq hr k 2 p) w 0) v))), some (.int (nI v))] []) 5 (fun σ hC hF => ?_) (fun v hv9 ih σ hC hF => ?_) 0 (Nat.zero_le _) σ hC hF
  · refine R.iload (i := 6) hc rfl dX6_kindsDipped_6 ?_
    refine R.iconst hc ic_5 dX6_kindsDipped_8 ?_
    refine R.icmpN_ge (tgt := 61) hc dX6_kindsDipped_9 (by decide) (by omega) (by omega) (fun _ => ?_) (fun q => absurd (Nat.le_refl _) q)
    refine R.iload (i := 5) hc rfl dX6_kindsDipped_61 ?_
    exact R.iret hc rfl dX6_kindsDipped_63 ⟨rfl, rfl, hC, hF⟩
  · obtain ⟨da, dp, dq, dh, dd, hD⟩ := hC.cd
    refine R.iload (i := 6) hc rfl dX6_kindsDipped_6 ?_
    refine R.iconst hc ic_5 dX6_kindsDipped_8 ?_
    refine R.icmpN_ge (tgt := 61) hc dX6_kindsDipped_9 (by decide) (by omega) (by omega) (fun q => absurd q (by omega)) (fun _ => ?_)
    refine R.aload_n (j := 0) (i := 0) hc rfl rfl dX6_kindsDipped_12 ?_
    refine R.get hc gf_X6_23_r dX6_kindsDipped_13 (hD.1) rfl ?_
    refine R.aload_n (j := 0) (i := 0) hc rfl rfl dX6_kindsDipped_16 ?_
    refine R.get hc gf_X6_10_r dX6_kindsDipped_17 (hD.1) rfl ?_
    refine R.cVu hc m_X4_copyFrom lk_X6_140 dX6_kindsDipped_20 (c_X4_copyFrom l (d + 3) X n hD.2.2.2.1 hD.2.1 hW1 hW2 (by omega)) (hD.2.2.2.1.obj) rfl rfl rfl (by omega) ⟨Nat.le_refl _, Nat.le_refl _⟩ (Nat.le_of_ble_eq_true rfl) (fun σ hX => ?_)
    have hD := hD.w hX.1 hX.2
    have hF := hF.tr (hX.2.wid (by omega))
    refine R.aload_n (j := 0) (i := 0) hc rfl rfl dX6_kindsDipped_23 ?_
    refine R.get hc gf_X6_23_r dX6_kindsDipped_24 (hD.1) rfl ?_
    refine R.get hc gf_X6_92 dX6_kindsDipped_27 (hD.2.2.2.1.obj) rfl ?_
    refine R.iload_n (j := 1) (i := 1) hc rfl rfl dX6_kindsDipped_30 ?_
    refine R.iload (i := 6) hc rfl dX6_kindsDipped_31 ?_
    refine R.iastW hc dX6_kindsDipped_33 (hD.2.2.2.1.w0 _ _) (by omega) (by decide) (fun σ hX => ?_)
    have hD := hD.w hX.1 hX.2
    have hF := hF.tr (hX.2.wid (by omega))
    refine R.aload_n (j := 0) (i := 0) hc rfl rfl dX6_kindsDipped_34 ?_
    refine R.iload_n (j := 1) (i := 1) hc rfl rfl dX6_kindsDipped_35 ?_
    refine R.iload_n (j := 2) (i := 2) hc rfl rfl dX6_kindsDipped_36 ?_
    refine R.iload_n (j := 3) (i := 3) hc rfl rfl dX6_kindsDipped_37 ?_
    refine R.iload (i := 4) hc rfl dX6_kindsDipped_38 ?_
    refine R.cVi hc m_X6_draftAgrees lk_X6_273 dX6_kindsDipped_40 (c_X6_draftAgrees l d X n hD hI (WF_kind hW (by omega)) hp hs4 hi hw) (hD.1) rfl rfl rfl (by omega) ⟨Nat.le_refl _, Nat.le_refl _⟩ (Nat.le_of_ble_eq_true rfl) (fun σ hX => ?_)
    obtain ⟨hC, hE⟩ := hX
    have hF := hF.tr hE
    refine R.ifB_eq (tgt := 55) hc dX6_kindsDipped_43 (by decide) (fun z => ?_) (fun z => ?_)
    · refine R.iinc6 hc dX6_kindsDipped_55 (iiN1 _) (by decide) rfl ?_
      refine R.goto (tgt := 6) hc dX6_kindsDipped_58 (by decide) ?_
      have e : bsN (fun v => agB it s i (fun k => hoursN (a2 a 0 p v) np nq hr k 2 p) w 0) (v + 1) = bsN (fun v => agB it s i (fun k => hoursN (a2 a 0 p v) np nq hr k 2 p) w 0) v := by rw [bsN]; simp [z]
      rw [e] at ih
      exact ih σ hC hF
    · refine R.iload (i := 5) hc rfl dX6_kindsDipped_46 ?_
      refine R.iconst hc ic_1 dX6_kindsDipped_48 ?_
      refine R.iload (i := 6) hc rfl dX6_kindsDipped_49 ?_
      first | refine R.shl1N hc (by omega) dX6_kindsDipped_51 ?_ | refine R.ishl hc dX6_kindsDipped_51 ?_
      first | refine R.iorN hc dX6_kindsDipped_52 ?_ | refine R.ior hc dX6_kindsDipped_52 ?_
      refine R.ist5 hc dX6_kindsDipped_53 (by decide) rfl ?_
      refine R.iinc6 hc dX6_kindsDipped_55 (iiN1 _) (by decide) rfl ?_
      refine R.goto (tgt := 6) hc dX6_kindsDipped_58 (by decide) ?_
      have e : bsN (fun v => agB it s i (fun k => hoursN (a2 a 0 p v) np nq hr k 2 p) w 0) (v + 1) = bsN (fun v => agB it s i (fun k => hoursN (a2 a 0 p v) np nq hr k 2 p) w 0) v ||| 2 ^ v := by rw [bsN]; simp [z]
      rw [e] at ih
      exact ih σ hC hF
/-- how many numbers below k, the least of them (0 none, or the number and 1) -/
def dpF (P : Nat → Bool) : Nat → Nat × Nat
  | 0 => (0, 0)
  | k + 1 => if P k then ((dpF P k).1 + 1, if (dpF P k).1 = 0 then k + 1 else (dpF P k).2) else dpF P k
theorem dpF_le (P : Nat → Bool) : ∀ k, (dpF P k).1 ≤ k ∧ (dpF P k).2 ≤ k := by
  intro k
  induction k with
  | zero => exact ⟨Nat.le_refl _, Nat.le_refl _⟩
  | succ k ih =>
    rw [dpF]
    split
    · refine ⟨by show _ + 1 ≤ _; omega, ?_⟩
      dsimp only
      split <;> omega
    · omega
set_option maxHeartbeats 4000000 in
set_option maxRecDepth 100000 in
theorem c_X6_depthsDipped (l : Launch) (d : Nat) (X : Nat × (Nat → Int32)) (n : Nat) {σ : Wd} {a : SA} {np nq hr dr : Nat} {hs : List SN} {im : IM} {tp : Nat → Nat} {tl : Nat} {ln sz : Nat → Nat} {it : Nat → Nat → Int64} (hC : CA σ a np nq hr dr hs im tp tl ln sz it) (hI : WI a np nq hr dr hs im tp tl ln sz) {p s i w : Nat} (hp : p < np) (hs4 : s < 4) (hi : i + w ≤ sz s) (hw : w ≤ 8) (lst : Bool) : CN l yX6_depthsDipped cX6_depthsDipped 9 (some .int) ((d + 5)) X n [.ref 0, .int (nI p), .int (nI s), .int (nI i), .int (nI w), .int (b2 lst)] σ (fun v σ' => v = some (.int (if lst then cI (dpF (fun v => agB it s i (fun k => hoursN (a2 a 2 p v) np nq hr k 2 p) w 0) 61).2 else nI (dpF (fun v => agB it s i (fun k => hoursN (a2 a 2 p v) np nq hr k 2 p) w 0) 61).1)) ∧ (CA σ' a np nq hr dr hs im tp tl ln sz it ∧ Eqo 0 42 σ σ')) := by
  refine CN.of (by decide) [some (.ref 0), some (.int (nI p)), some (.int (nI s)), some (.int (nI i)), some (.int (nI w)), some (.int (b2 lst)), none, none, none] (fun _ => Nat.le_of_ble_eq_true rfl) (fun _ => rfl) (fun cx hc => ?_)
  have hI0 := hI
  obtain ⟨hW, hh, hdr, hwh, hwi, hU, hV⟩ := hI0
  have hW1 := hW.1
  have hW2 := hW.2.1
  have hF : Eqo 0 42 σ σ := Eqo.rf
  refine R.iconst hc ic_0 dX6_depthsDipped_0 ?_
  refine R.ist6 hc dX6_depthsDipped_1 (by decide) rfl ?_
  refine R.bipush hc bp_m4 dX6_depthsDipped_3 ?_
  refine R.ist7 hc dX6_depthsDipped_5 (by decide) rfl ?_
  refine R.iconst hc ic_0 dX6_depthsDipped_7 ?_
  refine R.ist8 hc dX6_depthsDipped_8 (by decide) rfl ?_
  refine rl_down (P := fun v => ∀ σ1, CA σ1 a np nq hr dr hs im tp tl ln sz it → Eqo 0 42 σ σ1 → R cx 0 0 n σ1 10 [some (.ref 0), some (.int (nI p)), some (.int (nI s)), some (.int (nI i)), some (.int (nI w)), some (.int (b2 lst)), some (.int (nI (dpF (fun v => agB it s i (fun k => hoursN (a2 a 2 p v) np nq hr k 2 p) w 0) v).1)), some (.int (cI (dpF (fun v => agB it s i (fun k => hoursN (a2 a 2 p v) np nq hr k 2 p) w 0) v).2)), some (.int (nI v))] []) 61 (fun σ hC hF => ?_) (fun v hv9 ih σ hC hF => ?_) 0 (Nat.zero_le _) σ hC hF
  · refine R.iload (i := 8) hc rfl dX6_depthsDipped_10 ?_
    refine R.bipush hc bp_60 dX6_depthsDipped_12 ?_
    refine R.icmpN_gt (tgt := 74) hc dX6_depthsDipped_14 (by decide) (by omega) (by omega) (fun _ => ?_) (fun q => absurd (by omega) q)
    refine R.iload (i := 5) hc rfl dX6_depthsDipped_74 ?_
    refine R.ifB_eq (tgt := 84) hc dX6_depthsDipped_76 (by decide) (fun z => ?_) (fun z => ?_)
    · subst z
      refine R.iload (i := 6) hc rfl dX6_depthsDipped_84 ?_
      exact R.iret hc rfl dX6_depthsDipped_86 ⟨rfl, rfl, hC, hF⟩
    · subst z
      refine R.iload (i := 7) hc rfl dX6_depthsDipped_79 ?_
      refine R.goto (tgt := 86) hc dX6_depthsDipped_81 (by decide) ?_
      exact R.iret hc rfl dX6_depthsDipped_86 ⟨rfl, rfl, hC, hF⟩
  · obtain ⟨da, dp, dq, dh, dd, hD⟩ := hC.cd
    have hdl := dpF_le (fun v => agB it s i (fun k => hoursN (a2 a 2 p v) np nq hr k 2 p) w 0) v
    refine R.iload (i := 8) hc rfl dX6_depthsDipped_10 ?_
    refine R.bipush hc bp_60 dX6_depthsDipped_12 ?_
    refine R.icmpN_gt (tgt := 74) hc dX6_depthsDipped_14 (by decide) (by omega) (by omega) (fun q => absurd q (by omega)) (fun _ => ?_)
    refine R.aload_n (j := 0) (i := 0) hc rfl rfl dX6_depthsDipped_17 ?_
    refine R.get hc gf_X6_23_r dX6_depthsDipped_18 (hD.1) rfl ?_
    refine R.aload_n (j := 0) (i := 0) hc rfl rfl dX6_depthsDipped_21 ?_
    refine R.get hc gf_X6_10_r dX6_depthsDipped_22 (hD.1) rfl ?_
    refine R.cVu hc m_X4_copyFrom lk_X6_140 dX6_depthsDipped_25 (c_X4_copyFrom l (d + 3) X n hD.2.2.2.1 hD.2.1 hW1 hW2 (by omega)) (hD.2.2.2.1.obj) rfl rfl rfl (by omega) ⟨Nat.le_refl _, Nat.le_refl _⟩ (Nat.le_of_ble_eq_true rfl) (fun σ hX => ?_)
    have hD := hD.w hX.1 hX.2
    have hF := hF.tr (hX.2.wid (by omega))
    refine R.aload_n (j := 0) (i := 0) hc rfl rfl dX6_depthsDipped_28 ?_
    refine R.get hc gf_X6_23_r dX6_depthsDipped_29 (hD.1) rfl ?_
    refine R.get hc gf_X6_95 dX6_depthsDipped_32 (hD.2.2.2.1.obj) rfl ?_
    refine R.iload_n (j := 1) (i := 1) hc rfl rfl dX6_depthsDipped_35 ?_
    refine R.iload (i := 8) hc rfl dX6_depthsDipped_36 ?_
    refine R.iastW hc dX6_depthsDipped_38 (hD.2.2.2.1.w2 _ _) (by omega) (by decide) (fun σ hX => ?_)
    have hD := hD.w hX.1 hX.2
    have hF := hF.tr (hX.2.wid (by omega))
    refine R.aload_n (j := 0) (i := 0) hc rfl rfl dX6_depthsDipped_39 ?_
    refine R.iload_n (j := 1) (i := 1) hc rfl rfl dX6_depthsDipped_40 ?_
    refine R.iload_n (j := 2) (i := 2) hc rfl rfl dX6_depthsDipped_41 ?_
    refine R.iload_n (j := 3) (i := 3) hc rfl rfl dX6_depthsDipped_42 ?_
    refine R.iload (i := 4) hc rfl dX6_depthsDipped_43 ?_
    refine R.cVi hc m_X6_draftAgrees lk_X6_273 dX6_depthsDipped_45 (c_X6_draftAgrees l d X n hD hI (WF_dep hW (by omega)) hp hs4 hi hw) (hD.1) rfl rfl rfl (by omega) ⟨Nat.le_refl _, Nat.le_refl _⟩ (Nat.le_of_ble_eq_true rfl) (fun σ hX => ?_)
    obtain ⟨hC, hE⟩ := hX
    have hF := hF.tr hE
    rw [dpF] at ih
    refine R.ifB_eq (tgt := 68) hc dX6_depthsDipped_48 (by decide) (fun z => ?_) (fun z => ?_)
    · rw [if_neg (by rw [z]; decide)] at ih
      refine R.iinc8 hc dX6_depthsDipped_68 (iiN1 _) (by decide) rfl ?_
      refine R.goto (tgt := 10) hc dX6_depthsDipped_71 (by decide) ?_
      exact ih σ hC hF
    · rw [if_pos z] at ih
      refine R.iload (i := 6) hc rfl dX6_depthsDipped_51 ?_
      refine R.ifN_ne (tgt := 61) hc dX6_depthsDipped_53 (by decide) (by omega) (fun y => ?_) (fun y => ?_)
      · rw [if_neg y] at ih
        refine R.iload (i := 7) hc rfl dX6_depthsDipped_61 ?_
        refine R.ist7 hc dX6_depthsDipped_63 (by decide) rfl ?_
        refine R.iinc6 hc dX6_depthsDipped_65 (iiN1 _) (by decide) rfl ?_
        refine R.iinc8 hc dX6_depthsDipped_68 (iiN1 _) (by decide) rfl ?_
        refine R.goto (tgt := 10) hc dX6_depthsDipped_71 (by decide) ?_
        exact ih σ hC hF
      · rw [if_pos y] at ih
        refine R.iload (i := 8) hc rfl dX6_depthsDipped_56 ?_
        refine R.goto (tgt := 63) hc dX6_depthsDipped_58 (by decide) ?_
        refine R.ist7 hc dX6_depthsDipped_63 (by decide) rfl ?_
        refine R.iinc6 hc dX6_depthsDipped_65 (iiN1 _) (by decide) rfl ?_
        refine R.iinc8 hc dX6_depthsDipped_68 (iiN1 _) (by decide) rfl ?_
        refine R.goto (tgt := 10) hc dX6_depthsDipped_71 (by decide) ?_
        exact ih σ hC hF
def dipA (a : SA) (np nq hr : Nat) (it : Nat → Nat → Int64) (p s i w v : Nat) : Int32 := if v = 0 then nI (bsN (fun z => agB it s i (fun k => hoursN (a2 a 0 p z) np nq hr k 2 p) w 0) 5) else if v = 2 then cI (dpF (fun z => agB it s i (fun k => hoursN (a2 a 2 p z) np nq hr k 2 p) w 0) 61).2 else nI (dpF (fun z => agB it s i (fun k => hoursN (a2 a 2 p z) np nq hr k 2 p) w 0) 61).1
def s_dipped (a : SA) (np nq hr : Nat) (ln sz : Nat → Nat) (it : Nat → Nat → Int64) (p s l9 i w v : Int32) : Int32 := if inI p np && inI s 4 && inI l9 4 && inR w 1 8 && inR v 0 2 then (if refS ln sz (tN s) (tN l9) i w = 0 then dipA a np nq hr it (tN p) (tN s) (tN i) (tN w) (tN v) else refS ln sz (tN s) (tN l9) i w) else -1
set_option maxHeartbeats 4000000 in
set_option maxRecDepth 100000 in
theorem c_X6_dipped (l : Launch) (d : Nat) (X : Nat × (Nat → Int32)) (n : Nat) {σ : Wd} {a : SA} {np nq hr dr : Nat} {hs : List SN} {im : IM} {tp : Nat → Nat} {tl : Nat} {ln sz : Nat → Nat} {it : Nat → Nat → Int64} (hC : CA σ a np nq hr dr hs im tp tl ln sz it) (hI : WI a np nq hr dr hs im tp tl ln sz) (p s l9 i w v : Int32) : CN l yX6_dipped cX6_dipped 8 (some .int) ((d + 6)) X n [.ref 0, .int p, .int s, .int l9, .int i, .int w, .int v] σ (fun r σ' => r = some (.int (s_dipped a np nq hr ln sz it p s l9 i w v)) ∧ (CA σ' a np nq hr dr hs im tp tl ln sz it ∧ Eqo 0 42 σ σ')) := by
  refine CN.of (by decide) [some (.ref 0), some (.int p), some (.int s), some (.int l9), some (.int i), some (.int w), some (.int v), none] (fun _ => Nat.le_of_ble_eq_true rfl) (fun _ => rfl) (fun cx hc => ?_)
  obtain ⟨da, dp, dq, dh, dd, hD⟩ := hC.cd
  obtain ⟨hW, hh, hdr, hwh, hwi, hU, hV⟩ := id hI
  have hW1 := hW.1
  have hW2 := hW.2.1
  have hF : Eqo 0 42 σ σ := Eqo.rf
  refine R.aload_n (j := 0) (i := 0) hc rfl rfl dX6_dipped_0 ?_
  refine R.get hc gf_X6_10_r dX6_dipped_1 (hD.1) rfl ?_
  refine R.iload_n (j := 1) (i := 1) hc rfl rfl dX6_dipped_4 ?_
  refine R.cVr hc m_X4_hasPuddle lk_X6_85 dX6_dipped_5 (c_X4_hasPuddle l (d + 5) X n hD.2.1 hW _) (hD.2.1.obj) rfl rfl rfl (by omega) ⟨Nat.le_refl _, Nat.le_refl _⟩ (Nat.le_of_ble_eq_true rfl) ?_
  refine R.ifB_eq (tgt := 25) hc dX6_dipped_8 (by decide) (fun q1 => ?_) (fun q1 => ?_)
  · refine R.iconst hc ic_m1 dX6_dipped_25 ?_
    have e9 : (-1) = s_dipped a np nq hr ln sz it p s l9 i w v := by simp [s_dipped, q1]
    exact R.iret hc rfl dX6_dipped_26 ⟨rfl, congrArg (fun z => some (Value.int z)) e9, hD.ca, hF⟩
  refine R.iload_n (j := 2) (i := 2) hc rfl rfl dX6_dipped_11 ?_
  refine R.cSr hc m_X3_isSheet lk_X6_229 dX6_dipped_12 (c_X3_isSheet l (d + 5) X n _) rfl rfl (by omega) ⟨Nat.le_refl _, Nat.le_refl _⟩ (Nat.le_of_ble_eq_true rfl) ?_
  refine R.ifB_eq (tgt := 25) hc dX6_dipped_15 (by decide) (fun q2 => ?_) (fun q2 => ?_)
  · refine R.iconst hc ic_m1 dX6_dipped_25 ?_
    have e9 : (-1) = s_dipped a np nq hr ln sz it p s l9 i w v := by simp [s_dipped, q2]
    exact R.iret hc rfl dX6_dipped_26 ⟨rfl, congrArg (fun z => some (Value.int z)) e9, hD.ca, hF⟩
  refine R.iload_n (j := 3) (i := 3) hc rfl rfl dX6_dipped_18 ?_
  refine R.cSr hc m_X3_isLane lk_X6_232 dX6_dipped_19 (c_X3_isLane l (d + 5) X n _) rfl rfl (by omega) ⟨Nat.le_refl _, Nat.le_refl _⟩ (Nat.le_of_ble_eq_true rfl) ?_
  refine R.ifB_ne (tgt := 27) hc dX6_dipped_22 (by decide) (fun q3 => ?_) (fun q3 => ?_)
  rotate_left
  · refine R.iconst hc ic_m1 dX6_dipped_25 ?_
    have e9 : (-1) = s_dipped a np nq hr ln sz it p s l9 i w v := by simp [s_dipped, q3]
    exact R.iret hc rfl dX6_dipped_26 ⟨rfl, congrArg (fun z => some (Value.int z)) e9, hD.ca, hF⟩
  refine R.iload (i := 5) hc rfl dX6_dipped_27 ?_
  refine R.iconst hc ic_1 dX6_dipped_29 ?_
  refine R.bipush hc bp_8 dX6_dipped_30 ?_
  refine R.cSr hc m_X6_within lk_X6_64 dX6_dipped_32 (c_X6_within l (d + 5) X n _ _ _) rfl rfl (by omega) ⟨Nat.le_refl _, Nat.le_refl _⟩ (Nat.le_of_ble_eq_true rfl) ?_
  refine R.ifB_eq (tgt := 48) hc dX6_dipped_35 (by decide) (fun q4 => ?_) (fun q4 => ?_)
  · refine R.iconst hc ic_m1 dX6_dipped_48 ?_
    have e9 : (-1) = s_dipped a np nq hr ln sz it p s l9 i w v := by simp [s_dipped, q4]
    exact R.iret hc rfl dX6_dipped_49 ⟨rfl, congrArg (fun z => some (Value.int z)) e9, hD.ca, hF⟩
  refine R.iload (i := 6) hc rfl dX6_dipped_38 ?_
  refine R.iconst hc ic_0 dX6_dipped_40 ?_
  refine R.iconst hc ic_2 dX6_dipped_41 ?_
  refine R.cSr hc m_X6_within lk_X6_64 dX6_dipped_42 (c_X6_within l (d + 5) X n _ _ _) rfl rfl (by omega) ⟨Nat.le_refl _, Nat.le_refl _⟩ (Nat.le_of_ble_eq_true rfl) ?_
  refine R.ifB_ne (tgt := 50) hc dX6_dipped_45 (by decide) (fun q5 => ?_) (fun q5 => ?_)
  rotate_left
  · refine R.iconst hc ic_m1 dX6_dipped_48 ?_
    have e9 : (-1) = s_dipped a np nq hr ln sz it p s l9 i w v := by simp [s_dipped, q5]
    exact R.iret hc rfl dX6_dipped_49 ⟨rfl, congrArg (fun z => some (Value.int z)) e9, hD.ca, hF⟩
  obtain ⟨i1, rfl, g1, t1⟩ := inI_tN (by omega) q1
  obtain ⟨i3, rfl, g3, t3⟩ := inI_tN (by decide) q2
  obtain ⟨i4, rfl, g4, t4⟩ := inI_tN (by decide) q3
  obtain ⟨i5, rfl, _, g5, t5⟩ := inR_of (by decide) (by decide) q4
  obtain ⟨i6, rfl, _, g6, t6⟩ := inR_of (by decide) (by decide) q5
  have hv := hV i3 g3
  refine R.aload_n (j := 0) (i := 0) hc rfl rfl dX6_dipped_50 ?_
  refine R.get hc gf_X6_46_r dX6_dipped_51 (hD.1) rfl ?_
  refine R.iload_n (j := 2) (i := 2) hc rfl rfl dX6_dipped_54 ?_
  refine R.iload_n (j := 3) (i := 3) hc rfl rfl dX6_dipped_55 ?_
  refine R.iload (i := 4) hc rfl dX6_dipped_56 ?_
  refine R.iload (i := 5) hc rfl dX6_dipped_58 ?_
  refine R.cVr hc m_X3_refusal lk_X6_235 dX6_dipped_60 (c_X3_refusal l (d + 4) X n hD.2.2.2.2.2.2.1 hV (by omega) (by omega) _ _) (hD.2.2.2.2.2.2.1.1) rfl rfl rfl (by omega) ⟨Nat.le_refl _, Nat.le_refl _⟩ (Nat.le_of_ble_eq_true rfl) ?_
  refine R.ist7 hc dX6_dipped_63 (by decide) rfl ?_
  refine R.iload (i := 7) hc rfl dX6_dipped_65 ?_
  refine R.if_eq (tgt := 73) hc dX6_dipped_67 (by decide) (fun q6 => ?_) (fun q6 => ?_)
  rotate_left
  · refine R.iload (i := 7) hc rfl dX6_dipped_70 ?_
    have e9 : refS ln sz i3 i4 i (nI i5) = s_dipped a np nq hr ln sz it (nI i1) (nI i3) (nI i4) i (nI i5) (nI i6) := by rw [s_dipped, if_pos (by simp [q1, q2, q3, q4, q5]), t3, t4, if_neg q6]
    exact R.iret hc rfl dX6_dipped_72 ⟨rfl, congrArg (fun z => some (Value.int z)) e9, hD.ca, hF⟩
  obtain ⟨h1, h2⟩ := refS_ok q6
  obtain ⟨i2, k5, rfl, e5, h3, t2, _⟩ := holdB_of h2
  have e5 : i5 = k5 := (nI_eq (by omega) (by omega)).mp e5
  subst e5
  have hA : s_dipped a np nq hr ln sz it (nI i1) (nI i3) (nI i4) (nI i2) (nI i5) (nI i6) = dipA a np nq hr it i1 i3 i2 i5 i6 := by rw [s_dipped, if_pos (by simp [q1, q2, q3, q4, q5]), t3, t4, if_pos q6, t1, t2, t5, t6]
  rw [hA] at hc
  refine R.iload (i := 6) hc rfl dX6_dipped_73 ?_
  refine R.ifN_ne (tgt := 91) hc dX6_dipped_75 (by decide) (by omega) (fun z => ?_) (fun z => ?_)
  rotate_left
  · subst z
    refine R.aload_n (j := 0) (i := 0) hc rfl rfl dX6_dipped_78 ?_
    refine R.iload_n (j := 1) (i := 1) hc rfl rfl dX6_dipped_79 ?_
    refine R.iload_n (j := 2) (i := 2) hc rfl rfl dX6_dipped_80 ?_
    refine R.iload (i := 4) hc rfl dX6_dipped_81 ?_
    refine R.iload (i := 5) hc rfl dX6_dipped_83 ?_
    refine R.cVi hc m_X6_kindsDipped lk_X6_239 dX6_dipped_85 (c_X6_kindsDipped l d X n hD.ca hI g1 g3 h3 g5) (hD.1) rfl rfl rfl (by omega) ⟨Nat.le_refl _, Nat.le_refl _⟩ (Nat.le_of_ble_eq_true rfl) (fun σ hX => ?_)
    refine R.goto (tgt := 112) hc dX6_dipped_88 (by decide) ?_
    exact R.iret hc rfl dX6_dipped_112 ⟨rfl, rfl, hX.1, hF.tr hX.2⟩
  refine R.aload_n (j := 0) (i := 0) hc rfl rfl dX6_dipped_91 ?_
  refine R.iload_n (j := 1) (i := 1) hc rfl rfl dX6_dipped_92 ?_
  refine R.iload_n (j := 2) (i := 2) hc rfl rfl dX6_dipped_93 ?_
  refine R.iload (i := 4) hc rfl dX6_dipped_94 ?_
  refine R.iload (i := 5) hc rfl dX6_dipped_96 ?_
  refine R.iload (i := 6) hc rfl dX6_dipped_98 ?_
  refine R.iconst hc ic_2 dX6_dipped_100 ?_
  refine R.icmpN_ne (tgt := 108) hc dX6_dipped_101 (by decide) (by omega) (by omega) (fun y => ?_) (fun y => ?_)
  · refine R.iconst hc ic_0 dX6_dipped_108 ?_
    refine R.cVi hc m_X6_depthsDipped lk_X6_242 dX6_dipped_109 (c_X6_depthsDipped l d X n hD.ca hI g1 g3 h3 g5 false) (hD.1) rfl rfl rfl (by omega) ⟨Nat.le_refl _, Nat.le_refl _⟩ (Nat.le_of_ble_eq_true rfl) (fun σ hX => ?_)
    exact R.iret hc rfl dX6_dipped_112 ⟨rfl, by rw [dipA, if_neg z, if_neg y]; rfl, hX.1, hF.tr hX.2⟩
  · refine R.iconst hc ic_1 dX6_dipped_104 ?_
    refine R.goto (tgt := 109) hc dX6_dipped_105 (by decide) ?_
    refine R.cVi hc m_X6_depthsDipped lk_X6_242 dX6_dipped_109 (c_X6_depthsDipped l d X n hD.ca hI g1 g3 h3 g5 true) (hD.1) rfl rfl rfl (by omega) ⟨Nat.le_refl _, Nat.le_refl _⟩ (Nat.le_of_ble_eq_true rfl) (fun σ hX => ?_)
    exact R.iret hc rfl dX6_dipped_112 ⟨rfl, by rw [dipA, if_neg z, if_pos y]; rfl, hX.1, hF.tr hX.2⟩
