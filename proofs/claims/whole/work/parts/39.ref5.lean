set_option maxHeartbeats 4000000 in
set_option maxRecDepth 100000 in
theorem c_X7_ahead (l : Launch) (d : Nat) (X : Nat × (Nat → Int32)) (n : Nat) {σ : Wd} {a : SA} {np nq hr dr : Nat} {hs : List SN} {im : IM} {tp : Nat → Nat} {tl : Nat} {ln sz : Nat → Nat} {it : Nat → Nat → Int64} (hC : RA σ a np nq hr dr hs im tp tl ln sz it) (hI : WI a np nq hr dr hs im tp tl ln sz) (p k : Int32) : CN l yX7_ahead cX7_ahead 4 (some .int) ((d + 7)) X n [.ref 42, .int p, .int k] σ (fun r σ' => r = some (.int (s_ahead a np nq hr p k)) ∧ (RA σ' a np nq hr dr hs im tp tl ln sz it ∧ Eqo 42 17 σ σ')) := by
  refine CN.of (by decide) [some (.ref 42), some (.int p), some (.int k), none] (fun _ => Nat.le_of_ble_eq_true rfl) (fun _ => rfl) (fun cx hc => ?_)
  obtain ⟨A, L, I, hR, hS⟩ := hC
  obtain ⟨hW, hh, hdr, hwh, hwi, hU, hV⟩ := hI
  have hN := hS.n
  have hW1 := hW.1
  have hW2 := hW.2.1
  have hF : Eqo 42 17 σ σ := Eqo.rf
  refine R.aload_n (j := 0) (i := 0) hc rfl rfl dX7_ahead_0 ?_
  refine R.iload_n (j := 1) (i := 1) hc rfl rfl dX7_ahead_1 ?_
  refine R.cVr hc m_X7_isPuddle lk_X7_74 dX7_ahead_2 (c_X7_isPuddle l (d + 5) X n hR hN hW _) (hR.1) rfl rfl rfl (by omega) ⟨Nat.le_refl _, Nat.le_refl _⟩ (Nat.le_of_ble_eq_true rfl) ?_
  refine R.ifB_eq (tgt := 20) hc dX7_ahead_5 (by decide) (fun q1 => ?_) (fun q1 => ?_)
  · refine R.iconst hc ic_m1 dX7_ahead_20 ?_
    have e9 : (-1) = s_ahead a np nq hr p k := by simp [s_ahead, q1]
    exact R.iret hc rfl dX7_ahead_21 ⟨rfl, congrArg (fun z => some (Value.int z)) e9, ⟨A, L, I, hR, hS⟩, hF⟩
  refine R.iload_n (j := 2) (i := 2) hc rfl rfl dX7_ahead_8 ?_
  refine R.i2l hc dX7_ahead_9 ?_
  refine R.lconst (j := 0) (v := lN 0) hc rfl dX7_ahead_10 ?_
  refine R.ldc2 hc kn_X7_189 dX7_ahead_11 ?_
  refine R.cSr hc m_X7_in lk_X7_59 dX7_ahead_14 (c_X7_in l (d + 6) X n _ _ _) rfl rfl (by omega) ⟨Nat.le_refl _, Nat.le_refl _⟩ (Nat.le_of_ble_eq_true rfl) ?_
  rw [inL_R (by decide) (by decide)]
  refine R.ifB_ne (tgt := 22) hc dX7_ahead_17 (by decide) (fun q2 => ?_) (fun q2 => ?_)
  rotate_left
  · refine R.iconst hc ic_m1 dX7_ahead_20 ?_
    have e9 : (-1) = s_ahead a np nq hr p k := by simp [s_ahead, q2]
    exact R.iret hc rfl dX7_ahead_21 ⟨rfl, congrArg (fun z => some (Value.int z)) e9, ⟨A, L, I, hR, hS⟩, hF⟩
  obtain ⟨i1, rfl, g1, t1⟩ := inI_tN (by omega) q1
  obtain ⟨i2, rfl, _, g2, t2⟩ := inR_of (by decide) (by decide) q2
  have hA : s_ahead a np nq hr (nI i1) (nI i2) = nI (hoursN a np nq hr i2 2 i1) := by simp [s_ahead, q1, q2, t1, t2]
  rw [hA] at hc
  refine R.aload_n (j := 0) (i := 0) hc rfl rfl dX7_ahead_22 ?_
  refine R.cVu hc m_X7_asides lk_X7_204 dX7_ahead_23 (c_X7_asides l (d + 6) X n hR) (hR.1) rfl rfl rfl (by omega) ⟨Nat.le_refl _, Nat.le_refl _⟩ (Nat.le_of_ble_eq_true rfl) (fun σ hX => ?_)
  obtain ⟨B, hR, hB, hBk, hE⟩ := hX
  have hF := hF.tr hE
  have hFr : ∀ k, k = 2 ∨ k = 5 ∨ 11 ≤ k → B k = A k := fun k hk => hBk k (by omega)
  have hN : NowR (B 0) a np nq hr dr := by rw [hBk 0 (by omega)]; exact hN
  refine R.aload_n (j := 0) (i := 0) hc rfl rfl dX7_ahead_26 ?_
  refine R.iload_n (j := 2) (i := 2) hc rfl rfl dX7_ahead_27 ?_
  refine R.cVu hc m_X7_goesOn lk_X7_207 dX7_ahead_28 (c_X7_goesOn l d X n hR hN hW (by omega) (by omega)) (hR.1) rfl rfl rfl (by omega) ⟨Nat.le_refl _, Nat.le_refl _⟩ (Nat.le_of_ble_eq_true rfl) (fun σ hX => ?_)
  obtain ⟨C, hR, hN, hCk, hE⟩ := hX
  have hF := hF.tr hE
  have hB : ∀ j, j < 49 → C 6 j = A 0 j := fun j hj => by rw [hCk 6 (by omega)]; exact hB j hj
  have hFr : ∀ k, k = 2 ∨ k = 5 ∨ 11 ≤ k → C k = A k := fun k hk => (hCk k (by omega)).trans (hFr k hk)
  refine R.aload_n (j := 0) (i := 0) hc rfl rfl dX7_ahead_31 ?_
  refine R.iload_n (j := 1) (i := 1) hc rfl rfl dX7_ahead_32 ?_
  refine R.cVr hc m_X7_deep lk_X7_78 dX7_ahead_33 (n_X7_deep l (d + 5) X n hR hN (WF_hoursN hW _) (by omega)) (hR.1) rfl rfl rfl (by omega) ⟨Nat.le_refl _, Nat.le_refl _⟩ (Nat.le_of_ble_eq_true rfl) ?_
  refine R.istn3 hc dX7_ahead_36 (by decide) rfl ?_
  refine R.aload_n (j := 0) (i := 0) hc rfl rfl dX7_ahead_37 ?_
  refine R.cVu hc m_X7_backs lk_X7_210 dX7_ahead_38 (c_X7_backs l (d + 6) X n hR) (hR.1) rfl rfl rfl (by omega) ⟨Nat.le_refl _, Nat.le_refl _⟩ (Nat.le_of_ble_eq_true rfl) (fun σ hX => ?_)
  obtain ⟨B, hR, hB0, hBk, hE⟩ := hX
  have hF := hF.tr hE
  have hN0 : ∀ j, j < 49 → B 0 j = A 0 j := fun j hj => (hB0 j hj).trans (hB j hj)
  have hN : NowR (B 0) a np nq hr dr := hS.n.ag hW1 hW2 hN0
  have hB : ∀ j, j < 49 → B 6 j = A 0 j := fun j hj => by rw [hBk 6 (by omega)]; exact hB j hj
  have hFr : ∀ k, k = 2 ∨ k = 5 ∨ 11 ≤ k → B k = A k := fun k hk => (hBk k (by omega)).trans (hFr k hk)
  refine R.iload_n (j := 3) (i := 3) hc rfl rfl dX7_ahead_41 ?_
  exact R.iret hc rfl dX7_ahead_42 ⟨rfl, rfl, ⟨B, L, I, hR, hS.q hW1 hW2 hN0 hFr⟩, hF⟩
set_option maxHeartbeats 4000000 in
set_option maxRecDepth 100000 in
theorem c_X7_claims (l : Launch) (d : Nat) (X : Nat × (Nat → Int32)) (n : Nat) {σ : Wd} {a : SA} {np nq hr dr : Nat} {hs : List SN} {im : IM} {tp : Nat → Nat} {tl : Nat} {ln sz : Nat → Nat} {it : Nat → Nat → Int64} (hC : RA σ a np nq hr dr hs im tp tl ln sz it) (hI : WI a np nq hr dr hs im tp tl ln sz) (p k : Int32) : CN l yX7_claims cX7_claims 4 (some .int) ((d + 7)) X n [.ref 42, .int p, .int k] σ (fun r σ' => r = some (.int (s_claims a np nq hr p k)) ∧ (RA σ' a np nq hr dr hs im tp tl ln sz it ∧ Eqo 42 17 σ σ')) := by
  refine CN.of (by decide) [some (.ref 42), some (.int p), some (.int k), none] (fun _ => Nat.le_of_ble_eq_true rfl) (fun _ => rfl) (fun cx hc => ?_)
  obtain ⟨A, L, I, hR, hS⟩ := hC
  obtain ⟨hW, hh, hdr, hwh, hwi, hU, hV⟩ := hI
  have hN := hS.n
  have hW1 := hW.1
  have hW2 := hW.2.1
  have hF : Eqo 42 17 σ σ := Eqo.rf
  refine R.aload_n (j := 0) (i := 0) hc rfl rfl dX7_claims_0 ?_
  refine R.iload_n (j := 1) (i := 1) hc rfl rfl dX7_claims_1 ?_
  refine R.cVr hc m_X7_isPerson lk_X7_129 dX7_claims_2 (c_X7_isPerson l (d + 5) X n hR hN hW _) (hR.1) rfl rfl rfl (by omega) ⟨Nat.le_refl _, Nat.le_refl _⟩ (Nat.le_of_ble_eq_true rfl) ?_
  refine R.ifB_eq (tgt := 20) hc dX7_claims_5 (by decide) (fun q1 => ?_) (fun q1 => ?_)
  · refine R.iconst hc ic_m1 dX7_claims_20 ?_
    have e9 : (-1) = s_claims a np nq hr p k := by simp [s_claims, q1]
    exact R.iret hc rfl dX7_claims_21 ⟨rfl, congrArg (fun z => some (Value.int z)) e9, ⟨A, L, I, hR, hS⟩, hF⟩
  refine R.iload_n (j := 2) (i := 2) hc rfl rfl dX7_claims_8 ?_
  refine R.i2l hc dX7_claims_9 ?_
  refine R.lconst (j := 0) (v := lN 0) hc rfl dX7_claims_10 ?_
  refine R.ldc2 hc kn_X7_189 dX7_claims_11 ?_
  refine R.cSr hc m_X7_in lk_X7_59 dX7_claims_14 (c_X7_in l (d + 6) X n _ _ _) rfl rfl (by omega) ⟨Nat.le_refl _, Nat.le_refl _⟩ (Nat.le_of_ble_eq_true rfl) ?_
  rw [inL_R (by decide) (by decide)]
  refine R.ifB_ne (tgt := 22) hc dX7_claims_17 (by decide) (fun q2 => ?_) (fun q2 => ?_)
  rotate_left
  · refine R.iconst hc ic_m1 dX7_claims_20 ?_
    have e9 : (-1) = s_claims a np nq hr p k := by simp [s_claims, q2]
    exact R.iret hc rfl dX7_claims_21 ⟨rfl, congrArg (fun z => some (Value.int z)) e9, ⟨A, L, I, hR, hS⟩, hF⟩
  obtain ⟨i1, rfl, g1, t1⟩ := inI_tN (by omega) q1
  obtain ⟨i2, rfl, _, g2, t2⟩ := inR_of (by decide) (by decide) q2
  have hA : s_claims a np nq hr (nI i1) (nI i2) = cI (hoursN a np nq hr i2 6 i1) := by simp [s_claims, q1, q2, t1, t2]
  rw [hA] at hc
  refine R.aload_n (j := 0) (i := 0) hc rfl rfl dX7_claims_22 ?_
  refine R.cVu hc m_X7_asides lk_X7_204 dX7_claims_23 (c_X7_asides l (d + 6) X n hR) (hR.1) rfl rfl rfl (by omega) ⟨Nat.le_refl _, Nat.le_refl _⟩ (Nat.le_of_ble_eq_true rfl) (fun σ hX => ?_)
  obtain ⟨B, hR, hB, hBk, hE⟩ := hX
  have hF := hF.tr hE
  have hFr : ∀ k, k = 2 ∨ k = 5 ∨ 11 ≤ k → B k = A k := fun k hk => hBk k (by omega)
  have hN : NowR (B 0) a np nq hr dr := by rw [hBk 0 (by omega)]; exact hN
  refine R.aload_n (j := 0) (i := 0) hc rfl rfl dX7_claims_26 ?_
  refine R.iload_n (j := 2) (i := 2) hc rfl rfl dX7_claims_27 ?_
  refine R.cVu hc m_X7_goesOn lk_X7_207 dX7_claims_28 (c_X7_goesOn l d X n hR hN hW (by omega) (by omega)) (hR.1) rfl rfl rfl (by omega) ⟨Nat.le_refl _, Nat.le_refl _⟩ (Nat.le_of_ble_eq_true rfl) (fun σ hX => ?_)
  obtain ⟨C, hR, hN, hCk, hE⟩ := hX
  have hF := hF.tr hE
  have hB : ∀ j, j < 49 → C 6 j = A 0 j := fun j hj => by rw [hCk 6 (by omega)]; exact hB j hj
  have hFr : ∀ k, k = 2 ∨ k = 5 ∨ 11 ≤ k → C k = A k := fun k hk => (hCk k (by omega)).trans (hFr k hk)
  refine R.aload_n (j := 0) (i := 0) hc rfl rfl dX7_claims_31 ?_
  refine R.iload_n (j := 1) (i := 1) hc rfl rfl dX7_claims_32 ?_
  refine R.cVr hc m_X7_claimed lk_X7_70 dX7_claims_33 (n_X7_claimed l (d + 5) X n hR hN (WF_hoursN hW _) (by omega)) (hR.1) rfl rfl rfl (by omega) ⟨Nat.le_refl _, Nat.le_refl _⟩ (Nat.le_of_ble_eq_true rfl) ?_
  refine R.istn3 hc dX7_claims_36 (by decide) rfl ?_
  refine R.aload_n (j := 0) (i := 0) hc rfl rfl dX7_claims_37 ?_
  refine R.cVu hc m_X7_backs lk_X7_210 dX7_claims_38 (c_X7_backs l (d + 6) X n hR) (hR.1) rfl rfl rfl (by omega) ⟨Nat.le_refl _, Nat.le_refl _⟩ (Nat.le_of_ble_eq_true rfl) (fun σ hX => ?_)
  obtain ⟨B, hR, hB0, hBk, hE⟩ := hX
  have hF := hF.tr hE
  have hN0 : ∀ j, j < 49 → B 0 j = A 0 j := fun j hj => (hB0 j hj).trans (hB j hj)
  have hN : NowR (B 0) a np nq hr dr := hS.n.ag hW1 hW2 hN0
  have hB : ∀ j, j < 49 → B 6 j = A 0 j := fun j hj => by rw [hBk 6 (by omega)]; exact hB j hj
  have hFr : ∀ k, k = 2 ∨ k = 5 ∨ 11 ≤ k → B k = A k := fun k hk => (hBk k (by omega)).trans (hFr k hk)
  refine R.iload_n (j := 3) (i := 3) hc rfl rfl dX7_claims_41 ?_
  exact R.iret hc rfl dX7_claims_42 ⟨rfl, rfl, ⟨B, L, I, hR, hS.q hW1 hW2 hN0 hFr⟩, hF⟩
set_option maxHeartbeats 4000000 in
set_option maxRecDepth 100000 in
theorem c_X7_then (l : Launch) (d : Nat) (X : Nat × (Nat → Int32)) (n : Nat) {σ : Wd} {a : SA} {np nq hr dr : Nat} {hs : List SN} {im : IM} {tp : Nat → Nat} {tl : Nat} {ln sz : Nat → Nat} {it : Nat → Nat → Int64} (hC : RA σ a np nq hr dr hs im tp tl ln sz it) (hI : WI a np nq hr dr hs im tp tl ln sz) (k : Int32) : CN l yX7_then cX7_then 3 (some .int) ((d + 7)) X n [.ref 42, .int k] σ (fun r σ' => r = some (.int (s_then a np nq hr k)) ∧ (RA σ' a np nq hr dr hs im tp tl ln sz it ∧ Eqo 42 17 σ σ')) := by
  refine CN.of (by decide) [some (.ref 42), some (.int k), none] (fun _ => Nat.le_of_ble_eq_true rfl) (fun _ => rfl) (fun cx hc => ?_)
  obtain ⟨A, L, I, hR, hS⟩ := hC
  obtain ⟨hW, hh, hdr, hwh, hwi, hU, hV⟩ := hI
  have hN := hS.n
  have hW1 := hW.1
  have hW2 := hW.2.1
  have hF : Eqo 42 17 σ σ := Eqo.rf
  refine R.iload_n (j := 1) (i := 1) hc rfl rfl dX7_then_0 ?_
  refine R.i2l hc dX7_then_1 ?_
  refine R.lconst (j := 0) (v := lN 0) hc rfl dX7_then_2 ?_
  refine R.ldc2 hc kn_X7_189 dX7_then_3 ?_
  refine R.cSr hc m_X7_in lk_X7_59 dX7_then_6 (c_X7_in l (d + 6) X n _ _ _) rfl rfl (by omega) ⟨Nat.le_refl _, Nat.le_refl _⟩ (Nat.le_of_ble_eq_true rfl) ?_
  rw [inL_R (by decide) (by decide)]
  refine R.ifB_ne (tgt := 14) hc dX7_then_9 (by decide) (fun q1 => ?_) (fun q1 => ?_)
  rotate_left
  · refine R.iconst hc ic_m1 dX7_then_12 ?_
    have e9 : (-1) = s_then a np nq hr k := by simp [s_then, q1]
    exact R.iret hc rfl dX7_then_13 ⟨rfl, congrArg (fun z => some (Value.int z)) e9, ⟨A, L, I, hR, hS⟩, hF⟩
  obtain ⟨i1, rfl, _, g1, t1⟩ := inR_of (by decide) (by decide) q1
  have hA : s_then a np nq hr (nI i1) = nI (bsN (hasC (hoursN a np nq hr i1)) nq) := by simp [s_then, q1, t1]
  rw [hA] at hc
  refine R.aload_n (j := 0) (i := 0) hc rfl rfl dX7_then_14 ?_
  refine R.cVu hc m_X7_asides lk_X7_204 dX7_then_15 (c_X7_asides l (d + 6) X n hR) (hR.1) rfl rfl rfl (by omega) ⟨Nat.le_refl _, Nat.le_refl _⟩ (Nat.le_of_ble_eq_true rfl) (fun σ hX => ?_)
  obtain ⟨B, hR, hB, hBk, hE⟩ := hX
  have hF := hF.tr hE
  have hFr : ∀ k, k = 2 ∨ k = 5 ∨ 11 ≤ k → B k = A k := fun k hk => hBk k (by omega)
  have hN : NowR (B 0) a np nq hr dr := by rw [hBk 0 (by omega)]; exact hN
  refine R.aload_n (j := 0) (i := 0) hc rfl rfl dX7_then_18 ?_
  refine R.iload_n (j := 1) (i := 1) hc rfl rfl dX7_then_19 ?_
  refine R.cVu hc m_X7_goesOn lk_X7_207 dX7_then_20 (c_X7_goesOn l d X n hR hN hW (by omega) (by omega)) (hR.1) rfl rfl rfl (by omega) ⟨Nat.le_refl _, Nat.le_refl _⟩ (Nat.le_of_ble_eq_true rfl) (fun σ hX => ?_)
  obtain ⟨C, hR, hN, hCk, hE⟩ := hX
  have hF := hF.tr hE
  have hB : ∀ j, j < 49 → C 6 j = A 0 j := fun j hj => by rw [hCk 6 (by omega)]; exact hB j hj
  have hFr : ∀ k, k = 2 ∨ k = 5 ∨ 11 ≤ k → C k = A k := fun k hk => (hCk k (by omega)).trans (hFr k hk)
  refine R.aload_n (j := 0) (i := 0) hc rfl rfl dX7_then_23 ?_
  refine R.cVr hc m_X7_servedNow lk_X7_142 dX7_then_24 (c_X7_servedNow l (d + 4) X n hR hN (WF_hoursN hW _)) (hR.1) rfl rfl rfl (by omega) ⟨Nat.le_refl _, Nat.le_refl _⟩ (Nat.le_of_ble_eq_true rfl) ?_
  refine R.istn2 hc dX7_then_27 (by decide) rfl ?_
  refine R.aload_n (j := 0) (i := 0) hc rfl rfl dX7_then_28 ?_
  refine R.cVu hc m_X7_backs lk_X7_210 dX7_then_29 (c_X7_backs l (d + 6) X n hR) (hR.1) rfl rfl rfl (by omega) ⟨Nat.le_refl _, Nat.le_refl _⟩ (Nat.le_of_ble_eq_true rfl) (fun σ hX => ?_)
  obtain ⟨B, hR, hB0, hBk, hE⟩ := hX
  have hF := hF.tr hE
  have hN0 : ∀ j, j < 49 → B 0 j = A 0 j := fun j hj => (hB0 j hj).trans (hB j hj)
  have hN : NowR (B 0) a np nq hr dr := hS.n.ag hW1 hW2 hN0
  have hB : ∀ j, j < 49 → B 6 j = A 0 j := fun j hj => by rw [hBk 6 (by omega)]; exact hB j hj
  have hFr : ∀ k, k = 2 ∨ k = 5 ∨ 11 ≤ k → B k = A k := fun k hk => (hBk k (by omega)).trans (hFr k hk)
  refine R.iload_n (j := 2) (i := 2) hc rfl rfl dX7_then_32 ?_
  exact R.iret hc rfl dX7_then_33 ⟨rfl, rfl, ⟨B, L, I, hR, hS.q hW1 hW2 hN0 hFr⟩, hF⟩
set_option maxHeartbeats 4000000 in
set_option maxRecDepth 100000 in
theorem c_X7_served (l : Launch) (d : Nat) (X : Nat × (Nat → Int32)) (n : Nat) {σ : Wd} {a : SA} {np nq hr dr : Nat} {hs : List SN} {im : IM} {tp : Nat → Nat} {tl : Nat} {ln sz : Nat → Nat} {it : Nat → Nat → Int64} (hC : RA σ a np nq hr dr hs im tp tl ln sz it) (hI : WI a np nq hr dr hs im tp tl ln sz) (p : Int32) : CN l yX7_served cX7_served 3 (some .int) ((d + 6)) X n [.ref 42, .int p] σ (fun r σ' => r = some (.int (s_served a np nq hr p)) ∧ (RA σ' a np nq hr dr hs im tp tl ln sz it ∧ Eqo 42 17 σ σ')) := by
  refine CN.of (by decide) [some (.ref 42), some (.int p), none] (fun _ => Nat.le_of_ble_eq_true rfl) (fun _ => rfl) (fun cx hc => ?_)
  obtain ⟨A, L, I, hR, hS⟩ := hC
  obtain ⟨hW, hh, hdr, hwh, hwi, hU, hV⟩ := hI
  have hN := hS.n
  have hW1 := hW.1
  have hW2 := hW.2.1
  have hF : Eqo 42 17 σ σ := Eqo.rf
  refine R.aload_n (j := 0) (i := 0) hc rfl rfl dX7_served_0 ?_
  refine R.iload_n (j := 1) (i := 1) hc rfl rfl dX7_served_1 ?_
  refine R.cVr hc m_X7_isPerson lk_X7_129 dX7_served_2 (c_X7_isPerson l (d + 4) X n hR hN hW _) (hR.1) rfl rfl rfl (by omega) ⟨Nat.le_refl _, Nat.le_refl _⟩ (Nat.le_of_ble_eq_true rfl) ?_
  refine R.ifB_ne (tgt := 10) hc dX7_served_5 (by decide) (fun q1 => ?_) (fun q1 => ?_)
  rotate_left
  · refine R.iconst hc ic_m1 dX7_served_8 ?_
    have e9 : (-1) = s_served a np nq hr p := by simp [s_served, q1]
    exact R.iret hc rfl dX7_served_9 ⟨rfl, congrArg (fun z => some (Value.int z)) e9, ⟨A, L, I, hR, hS⟩, hF⟩
  obtain ⟨i1, rfl, g1, t1⟩ := inI_tN (by omega) q1
  have hA : s_served a np nq hr (nI i1) = firstF (fun k => hasC (hoursN a np nq hr k) i1) 41 0 := by simp [s_served, q1, t1]
  rw [hA] at hc
  obtain ⟨ans, hans⟩ : ∃ z, z = firstF (fun k => hasC (hoursN a np nq hr k) i1) 41 0 := ⟨_, rfl⟩
  rw [← hans] at hc
  obtain ⟨σ0, hσ0⟩ : ∃ z, z = σ := ⟨_, rfl⟩
  rw [← hσ0] at hc
  have hF : Eqo 42 17 σ0 σ := by rw [hσ0]; exact Eqo.rf
  have fin : ∀ (k : Nat) (σ : Wd) (B : Nat → Nat → Int32), k ≤ 41 → (if k < 41 then nI k else -4) = ans → RW σ B L I → NowR (B 0) (hoursN a np nq hr k) np nq (hr + k) dr → (∀ j, j < 49 → B 6 j = A 0 j) → (∀ k, k = 2 ∨ k = 5 ∨ 11 ≤ k → B k = A k) → Eqo 42 17 σ0 σ → R cx 0 0 n σ 42 [some (.ref 42), some (.int (nI i1)), some (.int (nI k))] [] := by
    intro k σ B hk e hR hN hB hFr hF
    refine R.aload_n (j := 0) (i := 0) hc rfl rfl dX7_served_42 ?_
    refine R.cVu hc m_X7_backs lk_X7_210 dX7_served_43 (c_X7_backs l (d + 5) X n hR) (hR.1) rfl rfl rfl (by omega) ⟨Nat.le_refl _, Nat.le_refl _⟩ (Nat.le_of_ble_eq_true rfl) (fun σ hX => ?_)
    obtain ⟨B, hR, hB0, hBk, hE⟩ := hX
    have hF := hF.tr hE
    have hN0 : ∀ j, j < 49 → B 0 j = A 0 j := fun j hj => (hB0 j hj).trans (hB j hj)
    have hN : NowR (B 0) a np nq hr dr := hS.n.ag hW1 hW2 hN0
    have hB : ∀ j, j < 49 → B 6 j = A 0 j := fun j hj => by rw [hBk 6 (by omega)]; exact hB j hj
    have hFr : ∀ k, k = 2 ∨ k = 5 ∨ 11 ≤ k → B k = A k := fun k hk => (hBk k (by omega)).trans (hFr k hk)
    refine R.iload_n (j := 2) (i := 2) hc rfl rfl dX7_served_46 ?_
    refine R.bipush hc bp_41 dX7_served_47 ?_
    refine R.icmpN_ge (tgt := 56) hc dX7_served_49 (by decide) (by omega) (by omega) (fun z => ?_) (fun z => ?_)
    · rw [if_neg (by omega)] at e
      refine R.bipush hc bp_m4 dX7_served_56 ?_
      exact R.iret hc rfl dX7_served_58 ⟨rfl, by rw [← e], ⟨B, L, I, hR, hS.q hW1 hW2 hN0 hFr⟩, hF⟩
    · rw [if_pos (by omega)] at e
      refine R.iload_n (j := 2) (i := 2) hc rfl rfl dX7_served_52 ?_
      refine R.goto (tgt := 58) hc dX7_served_53 (by decide) ?_
      exact R.iret hc rfl dX7_served_58 ⟨rfl, by rw [← e], ⟨B, L, I, hR, hS.q hW1 hW2 hN0 hFr⟩, hF⟩
  have key : ∀ (j k : Nat) (σ : Wd) (B : Nat → Nat → Int32), k + j = 41 → firstF (fun k => hasC (hoursN a np nq hr k) i1) j k = ans → RW σ B L I → NowR (B 0) (hoursN a np nq hr k) np nq (hr + k) dr → (∀ j, j < 49 → B 6 j = A 0 j) → (∀ k, k = 2 ∨ k = 5 ∨ 11 ≤ k → B k = A k) → Eqo 42 17 σ0 σ → R cx 0 0 n σ 16 [some (.ref 42), some (.int (nI i1)), some (.int (nI k))] [] := by
    intro j
    induction j with
    | zero =>
      intro k σ B hk e hR hN hB hFr hF
      refine R.iload_n (j := 2) (i := 2) hc rfl rfl dX7_served_16 ?_
      refine R.bipush hc bp_41 dX7_served_17 ?_
      refine R.icmpN_ge (tgt := 42) hc dX7_served_19 (by decide) (by omega) (by omega) (fun _ => ?_) (fun z => absurd (by omega) z)
      exact fin k σ B (by omega) (by rw [firstF] at e; rw [if_neg (by omega)]; exact e) hR hN hB hFr hF
    | succ j ih =>
      intro k σ B hk e hR hN hB hFr hF
      rw [firstF] at e
      have hWk := WF_hoursN (hr := hr) hW k
      have g6 := (hWk.2.2.2.1 i1 g1).2.2.2
      refine R.iload_n (j := 2) (i := 2) hc rfl rfl dX7_served_16 ?_
      refine R.bipush hc bp_41 dX7_served_17 ?_
      refine R.icmpN_ge (tgt := 42) hc dX7_served_19 (by decide) (by omega) (by omega) (fun z => absurd z (by omega)) (fun _ => ?_)
      refine R.aload_n (j := 0) (i := 0) hc rfl rfl dX7_served_22 ?_
      refine R.iload_n (j := 1) (i := 1) hc rfl rfl dX7_served_23 ?_
      refine R.cVr hc m_X7_claimed lk_X7_70 dX7_served_24 (n_X7_claimed l (d + 4) X n hR hN (WF_hoursN hW _) (by omega)) (hR.1) rfl rfl rfl (by omega) ⟨Nat.le_refl _, Nat.le_refl _⟩ (Nat.le_of_ble_eq_true rfl) ?_
      refine R.bipush hc bp_m4 dX7_served_27 ?_
      refine R.icmp_ne (tgt := 42) hc dX7_served_29 (by decide) (fun z => ?_) (fun z => ?_)
      · have z : hasC (hoursN a np nq hr k) i1 = true := by simp [hasC]; exact fun y => z ((cI_n4 (by omega)).mpr y)
        rw [if_pos z] at e
        exact fin k σ B (by omega) (by rw [if_pos (by omega)]; exact e) hR hN hB hFr hF
      · have z : ¬ hasC (hoursN a np nq hr k) i1 = true := by simp [hasC]; exact (cI_n4 (by omega)).mp z
        rw [if_neg z] at e
        refine R.aload_n (j := 0) (i := 0) hc rfl rfl dX7_served_32 ?_
        refine R.cVu hc m_X7_goesBy lk_X7_106 dX7_served_33 (c_X7_goesBy l d X n hR hN (WF_hoursN hW k) (by omega)) (hR.1) rfl rfl rfl (by omega) ⟨Nat.le_refl _, Nat.le_refl _⟩ (Nat.le_of_ble_eq_true rfl) (fun σ hX => ?_)
        obtain ⟨C, hR, hN, hCk, hE⟩ := hX
        have hF := hF.tr hE
        have hB : ∀ j, j < 49 → C 6 j = A 0 j := fun j hj => by rw [hCk 6 (by omega)]; exact hB j hj
        have hFr : ∀ k, k = 2 ∨ k = 5 ∨ 11 ≤ k → C k = A k := fun k hk => (hCk k (by omega)).trans (hFr k hk)
        refine R.iinc2 hc dX7_served_36 (iiN1 _) (by decide) rfl ?_
        refine R.goto (tgt := 16) hc dX7_served_39 (by decide) ?_
        exact ih (k + 1) σ C (by omega) e hR hN hB hFr hF
  refine R.aload_n (j := 0) (i := 0) hc rfl rfl dX7_served_10 ?_
  refine R.cVu hc m_X7_asides lk_X7_204 dX7_served_11 (c_X7_asides l (d + 5) X n hR) (hR.1) rfl rfl rfl (by omega) ⟨Nat.le_refl _, Nat.le_refl _⟩ (Nat.le_of_ble_eq_true rfl) (fun σ hX => ?_)
  obtain ⟨B, hR, hB, hBk, hE⟩ := hX
  have hF := hF.tr hE
  have hFr : ∀ k, k = 2 ∨ k = 5 ∨ 11 ≤ k → B k = A k := fun k hk => hBk k (by omega)
  have hN : NowR (B 0) a np nq hr dr := by rw [hBk 0 (by omega)]; exact hN
  refine R.iconst hc ic_0 dX7_served_14 ?_
  refine R.istn2 hc dX7_served_15 (by decide) rfl ?_
  exact key 41 0 σ B rfl hans.symm hR hN hB hFr hF
set_option maxHeartbeats 4000000 in
set_option maxRecDepth 100000 in
theorem c_X7_dries (l : Launch) (d : Nat) (X : Nat × (Nat → Int32)) (n : Nat) {σ : Wd} {a : SA} {np nq hr dr : Nat} {hs : List SN} {im : IM} {tp : Nat → Nat} {tl : Nat} {ln sz : Nat → Nat} {it : Nat → Nat → Int64} (hC : RA σ a np nq hr dr hs im tp tl ln sz it) (hI : WI a np nq hr dr hs im tp tl ln sz) (p : Int32) : CN l yX7_dries cX7_dries 3 (some .int) ((d + 6)) X n [.ref 42, .int p] σ (fun r σ' => r = some (.int (s_dries a np nq hr p)) ∧ (RA σ' a np nq hr dr hs im tp tl ln sz it ∧ Eqo 42 17 σ σ')) := by
  refine CN.of (by decide) [some (.ref 42), some (.int p), none] (fun _ => Nat.le_of_ble_eq_true rfl) (fun _ => rfl) (fun cx hc => ?_)
  obtain ⟨A, L, I, hR, hS⟩ := hC
  obtain ⟨hW, hh, hdr, hwh, hwi, hU, hV⟩ := hI
  have hN := hS.n
  have hW1 := hW.1
  have hW2 := hW.2.1
  have hF : Eqo 42 17 σ σ := Eqo.rf
  refine R.aload_n (j := 0) (i := 0) hc rfl rfl dX7_dries_0 ?_
  refine R.iload_n (j := 1) (i := 1) hc rfl rfl dX7_dries_1 ?_
  refine R.cVr hc m_X7_isPuddle lk_X7_74 dX7_dries_2 (c_X7_isPuddle l (d + 4) X n hR hN hW _) (hR.1) rfl rfl rfl (by omega) ⟨Nat.le_refl _, Nat.le_refl _⟩ (Nat.le_of_ble_eq_true rfl) ?_
  refine R.ifB_ne (tgt := 10) hc dX7_dries_5 (by decide) (fun q1 => ?_) (fun q1 => ?_)
  rotate_left
  · refine R.iconst hc ic_m1 dX7_dries_8 ?_
    have e9 : (-1) = s_dries a np nq hr p := by simp [s_dries, q1]
    exact R.iret hc rfl dX7_dries_9 ⟨rfl, congrArg (fun z => some (Value.int z)) e9, ⟨A, L, I, hR, hS⟩, hF⟩
  obtain ⟨i1, rfl, g1, t1⟩ := inI_tN (by omega) q1
  have hA : s_dries a np nq hr (nI i1) = firstF (fun k => dryB (hoursN a np nq hr k) i1) 41 0 := by simp [s_dries, q1, t1]
  rw [hA] at hc
  obtain ⟨ans, hans⟩ : ∃ z, z = firstF (fun k => dryB (hoursN a np nq hr k) i1) 41 0 := ⟨_, rfl⟩
  rw [← hans] at hc
  obtain ⟨σ0, hσ0⟩ : ∃ z, z = σ := ⟨_, rfl⟩
  rw [← hσ0] at hc
  have hF : Eqo 42 17 σ0 σ := by rw [hσ0]; exact Eqo.rf
  have fin : ∀ (k : Nat) (σ : Wd) (B : Nat → Nat → Int32), k ≤ 41 → (if k < 41 then nI k else -4) = ans → RW σ B L I → NowR (B 0) (hoursN a np nq hr k) np nq (hr + k) dr → (∀ j, j < 49 → B 6 j = A 0 j) → (∀ k, k = 2 ∨ k = 5 ∨ 11 ≤ k → B k = A k) → Eqo 42 17 σ0 σ → R cx 0 0 n σ 40 [some (.ref 42), some (.int (nI i1)), some (.int (nI k))] [] := by
    intro k σ B hk e hR hN hB hFr hF
    refine R.aload_n (j := 0) (i := 0) hc rfl rfl dX7_dries_40 ?_
    refine R.cVu hc m_X7_backs lk_X7_210 dX7_dries_41 (c_X7_backs l (d + 5) X n hR) (hR.1) rfl rfl rfl (by omega) ⟨Nat.le_refl _, Nat.le_refl _⟩ (Nat.le_of_ble_eq_true rfl) (fun σ hX => ?_)
    obtain ⟨B, hR, hB0, hBk, hE⟩ := hX
    have hF := hF.tr hE
    have hN0 : ∀ j, j < 49 → B 0 j = A 0 j := fun j hj => (hB0 j hj).trans (hB j hj)
    have hN : NowR (B 0) a np nq hr dr := hS.n.ag hW1 hW2 hN0
    have hB : ∀ j, j < 49 → B 6 j = A 0 j := fun j hj => by rw [hBk 6 (by omega)]; exact hB j hj
    have hFr : ∀ k, k = 2 ∨ k = 5 ∨ 11 ≤ k → B k = A k := fun k hk => (hBk k (by omega)).trans (hFr k hk)
    refine R.iload_n (j := 2) (i := 2) hc rfl rfl dX7_dries_44 ?_
    refine R.bipush hc bp_41 dX7_dries_45 ?_
    refine R.icmpN_ge (tgt := 54) hc dX7_dries_47 (by decide) (by omega) (by omega) (fun z => ?_) (fun z => ?_)
    · rw [if_neg (by omega)] at e
      refine R.bipush hc bp_m4 dX7_dries_54 ?_
      exact R.iret hc rfl dX7_dries_56 ⟨rfl, by rw [← e], ⟨B, L, I, hR, hS.q hW1 hW2 hN0 hFr⟩, hF⟩
    · rw [if_pos (by omega)] at e
      refine R.iload_n (j := 2) (i := 2) hc rfl rfl dX7_dries_50 ?_
      refine R.goto (tgt := 56) hc dX7_dries_51 (by decide) ?_
      exact R.iret hc rfl dX7_dries_56 ⟨rfl, by rw [← e], ⟨B, L, I, hR, hS.q hW1 hW2 hN0 hFr⟩, hF⟩
  have key : ∀ (j k : Nat) (σ : Wd) (B : Nat → Nat → Int32), k + j = 41 → firstF (fun k => dryB (hoursN a np nq hr k) i1) j k = ans → RW σ B L I → NowR (B 0) (hoursN a np nq hr k) np nq (hr + k) dr → (∀ j, j < 49 → B 6 j = A 0 j) → (∀ k, k = 2 ∨ k = 5 ∨ 11 ≤ k → B k = A k) → Eqo 42 17 σ0 σ → R cx 0 0 n σ 16 [some (.ref 42), some (.int (nI i1)), some (.int (nI k))] [] := by
    intro j
    induction j with
    | zero =>
      intro k σ B hk e hR hN hB hFr hF
      refine R.iload_n (j := 2) (i := 2) hc rfl rfl dX7_dries_16 ?_
      refine R.bipush hc bp_41 dX7_dries_17 ?_
      refine R.icmpN_ge (tgt := 40) hc dX7_dries_19 (by decide) (by omega) (by omega) (fun _ => ?_) (fun z => absurd (by omega) z)
      exact fin k σ B (by omega) (by rw [firstF] at e; rw [if_neg (by omega)]; exact e) hR hN hB hFr hF
    | succ j ih =>
      intro k σ B hk e hR hN hB hFr hF
      rw [firstF] at e
      have hWk := WF_hoursN (hr := hr) hW k
      refine R.iload_n (j := 2) (i := 2) hc rfl rfl dX7_dries_16 ?_
      refine R.bipush hc bp_41 dX7_dries_17 ?_
      refine R.icmpN_ge (tgt := 40) hc dX7_dries_19 (by decide) (by omega) (by omega) (fun z => absurd z (by omega)) (fun _ => ?_)
      refine R.aload_n (j := 0) (i := 0) hc rfl rfl dX7_dries_22 ?_
      refine R.iload_n (j := 1) (i := 1) hc rfl rfl dX7_dries_23 ?_
      refine R.cVr hc m_X7_isDry lk_X7_81 dX7_dries_24 (c_X7_isDry l (d + 3) X n hR hN (WF_hoursN hW _) _) (hR.1) rfl rfl rfl (by omega) ⟨Nat.le_refl _, Nat.le_refl _⟩ (Nat.le_of_ble_eq_true rfl) ?_
      refine R.ifB_ne (tgt := 40) hc dX7_dries_27 (by decide) (fun z => ?_) (fun z => ?_)
      · have z : dryB (hoursN a np nq hr k) i1 = true := by simp [dryI, q1, t1] at z; exact z
        rw [if_pos z] at e
        exact fin k σ B (by omega) (by rw [if_pos (by omega)]; exact e) hR hN hB hFr hF
      · have z : ¬ dryB (hoursN a np nq hr k) i1 = true := by simp [dryI, q1, t1] at z; simp [z]
        rw [if_neg z] at e
        refine R.aload_n (j := 0) (i := 0) hc rfl rfl dX7_dries_30 ?_
        refine R.cVu hc m_X7_goesBy lk_X7_106 dX7_dries_31 (c_X7_goesBy l d X n hR hN (WF_hoursN hW k) (by omega)) (hR.1) rfl rfl rfl (by omega) ⟨Nat.le_refl _, Nat.le_refl _⟩ (Nat.le_of_ble_eq_true rfl) (fun σ hX => ?_)
        obtain ⟨C, hR, hN, hCk, hE⟩ := hX
        have hF := hF.tr hE
        have hB : ∀ j, j < 49 → C 6 j = A 0 j := fun j hj => by rw [hCk 6 (by omega)]; exact hB j hj
        have hFr : ∀ k, k = 2 ∨ k = 5 ∨ 11 ≤ k → C k = A k := fun k hk => (hCk k (by omega)).trans (hFr k hk)
        refine R.iinc2 hc dX7_dries_34 (iiN1 _) (by decide) rfl ?_
        refine R.goto (tgt := 16) hc dX7_dries_37 (by decide) ?_
        exact ih (k + 1) σ C (by omega) e hR hN hB hFr hF
  refine R.aload_n (j := 0) (i := 0) hc rfl rfl dX7_dries_10 ?_
  refine R.cVu hc m_X7_asides lk_X7_204 dX7_dries_11 (c_X7_asides l (d + 5) X n hR) (hR.1) rfl rfl rfl (by omega) ⟨Nat.le_refl _, Nat.le_refl _⟩ (Nat.le_of_ble_eq_true rfl) (fun σ hX => ?_)
  obtain ⟨B, hR, hB, hBk, hE⟩ := hX
  have hF := hF.tr hE
  have hFr : ∀ k, k = 2 ∨ k = 5 ∨ 11 ≤ k → B k = A k := fun k hk => hBk k (by omega)
  have hN : NowR (B 0) a np nq hr dr := by rw [hBk 0 (by omega)]; exact hN
  refine R.iconst hc ic_0 dX7_dries_14 ?_
  refine R.istn2 hc dX7_dries_15 (by decide) rfl ?_
  exact key 41 0 σ B rfl hans.symm hR hN hB hFr hF
set_option maxHeartbeats 4000000 in
set_option maxRecDepth 100000 in
theorem c_X7_latest (l : Launch) (d : Nat) (X : Nat × (Nat → Int32)) (n : Nat) {σ : Wd} {a : SA} {np nq hr dr : Nat} {hs : List SN} {im : IM} {tp : Nat → Nat} {tl : Nat} {ln sz : Nat → Nat} {it : Nat → Nat → Int64} (hC : RA σ a np nq hr dr hs im tp tl ln sz it) (hI : WI a np nq hr dr hs im tp tl ln sz) (p : Int32) : CN l yX7_latest cX7_latest 4 (some .int) ((d + 7)) X n [.ref 42, .int p] σ (fun r σ' => r = some (.int (s_latest a np nq hr p)) ∧ (RA σ' a np nq hr dr hs im tp tl ln sz it ∧ Eqo 42 17 σ σ')) := by
  refine CN.of (by decide) [some (.ref 42), some (.int p), none, none] (fun _ => Nat.le_of_ble_eq_true rfl) (fun _ => rfl) (fun cx hc => ?_)
  obtain ⟨A, L, I, hR, hS⟩ := hC
  obtain ⟨hW, hh, hdr, hwh, hwi, hU, hV⟩ := hI
  have hN := hS.n
  have hW1 := hW.1
  have hW2 := hW.2.1
  have hF : Eqo 42 17 σ σ := Eqo.rf
  refine R.aload_n (j := 0) (i := 0) hc rfl rfl dX7_latest_0 ?_
  refine R.iload_n (j := 1) (i := 1) hc rfl rfl dX7_latest_1 ?_
  refine R.cVr hc m_X7_isPerson lk_X7_129 dX7_latest_2 (c_X7_isPerson l (d + 5) X n hR hN hW _) (hR.1) rfl rfl rfl (by omega) ⟨Nat.le_refl _, Nat.le_refl _⟩ (Nat.le_of_ble_eq_true rfl) ?_
  refine R.ifB_ne (tgt := 10) hc dX7_latest_5 (by decide) (fun q1 => ?_) (fun q1 => ?_)
  rotate_left
  · refine R.iconst hc ic_m1 dX7_latest_8 ?_
    have e9 : (-1) = s_latest a np nq hr p := by simp [s_latest, q1]
    exact R.iret hc rfl dX7_latest_9 ⟨rfl, congrArg (fun z => some (Value.int z)) e9, ⟨A, L, I, hR, hS⟩, hF⟩
  obtain ⟨i1, rfl, g1, t1⟩ := inI_tN (by omega) q1
  have hA : s_latest a np nq hr (nI i1) = downF (fun h => hasC (hoursN (a2 a 4 i1 h) np nq hr 40) i1) 21 := by simp [s_latest, q1, t1]
  rw [hA] at hc
  obtain ⟨ans, hans⟩ : ∃ z, z = downF (fun h => hasC (hoursN (a2 a 4 i1 h) np nq hr 40) i1) 21 := ⟨_, rfl⟩
  rw [← hans] at hc
  obtain ⟨σ0, hσ0⟩ : ∃ z, z = σ := ⟨_, rfl⟩
  rw [← hσ0] at hc
  have hF : Eqo 42 17 σ0 σ := by rw [hσ0]; exact Eqo.rf
  have key : ∀ h, h ≤ 21 → downF (fun h => hasC (hoursN (a2 a 4 i1 h) np nq hr 40) i1) h = ans → ∀ (σ : Wd) (B : Nat → Nat → Int32), RW σ B L I → (∀ j, j < 49 → B 0 j = A 0 j) → (∀ j, j < 49 → B 6 j = A 0 j) → (∀ k, k = 2 ∨ k = 5 ∨ 11 ≤ k → B k = A k) → Eqo 42 17 σ0 σ → R cx 0 0 n σ 20 [some (.ref 42), some (.int (nI i1)), some (.int (-4)), some (.int (lnI h))] [] := by
    intro h
    induction h with
    | zero =>
      intro hh e σ B hR hN0 hB hFr hF
      refine R.iload_n (j := 3) (i := 3) hc rfl rfl dX7_latest_20 ?_
      refine R.if_lt (tgt := 70) hc dX7_latest_21 (by decide) (fun _ => ?_) (fun z => absurd (by decide) z)
      refine R.iload_n (j := 2) (i := 2) hc rfl rfl dX7_latest_70 ?_
      rw [downF] at e
      exact R.iret hc rfl dX7_latest_71 ⟨rfl, by rw [e], ⟨B, L, I, hR, hS.q hW1 hW2 hN0 hFr⟩, hF⟩
    | succ h ih =>
      intro hh9 e σ B hR hN0 hB hFr hF
      rw [downF] at e
      simp only [lnI]
      have hN : NowR (B 0) a np nq hr dr := hS.n.ag hW1 hW2 hN0
      have g6 := ((WF_hoursN (hr := hr) (WF_comes (q := i1) (x := h) hW (by omega)) 40).2.2.2.1 i1 g1).2.2.2
      refine R.iload_n (j := 3) (i := 3) hc rfl rfl dX7_latest_20 ?_
      refine R.ifN_lt (tgt := 70) hc dX7_latest_21 (by decide) (by omega) ?_
      refine R.iload_n (j := 2) (i := 2) hc rfl rfl dX7_latest_24 ?_
      refine R.bipush hc bp_m4 dX7_latest_25 ?_
      refine R.icmp_ne (tgt := 70) hc dX7_latest_27 (by decide) (fun z => absurd rfl z) (fun _ => ?_)
      refine R.aload_n (j := 0) (i := 0) hc rfl rfl dX7_latest_30 ?_
      refine R.iload_n (j := 1) (i := 1) hc rfl rfl dX7_latest_31 ?_
      refine R.iload_n (j := 3) (i := 3) hc rfl rfl dX7_latest_32 ?_
      refine R.iconst hc ic_1 dX7_latest_33 ?_
      refine R.cVu hc m_X7_tells lk_X7_91 dX7_latest_34 (c_X7_tells l (d + 6) X n hR (k := 1) (by omega) (by omega) _) (hR.1) rfl rfl rfl (by omega) ⟨Nat.le_refl _, Nat.le_refl _⟩ (Nat.le_of_ble_eq_true rfl) (fun σ hX => ?_)
      obtain ⟨hR, hE⟩ := hX
      have hF := hF.tr hE
      have hN : NowR (A2 B 0 (25 + 4 * i1 + 1) (nI h) 0) (a2 a 4 i1 h) np nq hr dr := by rw [A2_s]; exact hN.wq hW1 (k := 1) (by omega)
      have hB : ∀ j, j < 49 → A2 B 0 (25 + 4 * i1 + 1) (nI h) 6 j = A 0 j := fun j hj => by rw [A2_n (by omega)]; exact hB j hj
      have hFr : ∀ k, k = 2 ∨ k = 5 ∨ 11 ≤ k → (A2 B 0 (25 + 4 * i1 + 1) (nI h)) k = A k := fun k hk => by rw [A2_n (by omega)]; exact hFr k hk
      refine R.aload_n (j := 0) (i := 0) hc rfl rfl dX7_latest_37 ?_
      refine R.bipush hc bp_40 dX7_latest_38 ?_
      refine R.cVu hc m_X7_goesOn lk_X7_207 dX7_latest_40 (c_X7_goesOn l d X n hR hN (WF_comes (q := i1) (x := h) hW (by omega)) (by omega) (by omega)) (hR.1) rfl rfl rfl (by omega) ⟨Nat.le_refl _, Nat.le_refl _⟩ (Nat.le_of_ble_eq_true rfl) (fun σ hX => ?_)
      obtain ⟨C, hR, hN, hCk, hE⟩ := hX
      have hF := hF.tr hE
      have hB : ∀ j, j < 49 → C 6 j = A 0 j := fun j hj => by rw [hCk 6 (by omega)]; exact hB j hj
      have hFr : ∀ k, k = 2 ∨ k = 5 ∨ 11 ≤ k → C k = A k := fun k hk => (hCk k (by omega)).trans (hFr k hk)
      refine R.aload_n (j := 0) (i := 0) hc rfl rfl dX7_latest_43 ?_
      refine R.iload_n (j := 1) (i := 1) hc rfl rfl dX7_latest_44 ?_
      refine R.cVr hc m_X7_claimed lk_X7_70 dX7_latest_45 (n_X7_claimed l (d + 5) X n hR hN (WF_hoursN (WF_comes (q := i1) (x := h) hW (by omega)) _) (by omega)) (hR.1) rfl rfl rfl (by omega) ⟨Nat.le_refl _, Nat.le_refl _⟩ (Nat.le_of_ble_eq_true rfl) ?_
      refine R.bipush hc bp_m4 dX7_latest_48 ?_
      refine R.icmp_ne (tgt := 58) hc dX7_latest_50 (by decide) (fun z => ?_) (fun z => ?_)
      · have z : hasC (hoursN (a2 a 4 i1 h) np nq hr 40) i1 = true := by simp [hasC]; exact fun y => z ((cI_n4 (by omega)).mpr y)
        rw [if_pos z] at e
        refine R.iload_n (j := 3) (i := 3) hc rfl rfl dX7_latest_58 ?_
        refine R.istn2 hc dX7_latest_59 (by decide) rfl ?_
        refine R.aload_n (j := 0) (i := 0) hc rfl rfl dX7_latest_60 ?_
        refine R.cVu hc m_X7_backs lk_X7_210 dX7_latest_61 (c_X7_backs l (d + 6) X n hR) (hR.1) rfl rfl rfl (by omega) ⟨Nat.le_refl _, Nat.le_refl _⟩ (Nat.le_of_ble_eq_true rfl) (fun σ hX => ?_)
        obtain ⟨B, hR, hB0, hBk, hE⟩ := hX
        have hF := hF.tr hE
        have hN0 : ∀ j, j < 49 → B 0 j = A 0 j := fun j hj => (hB0 j hj).trans (hB j hj)
        have hN : NowR (B 0) a np nq hr dr := hS.n.ag hW1 hW2 hN0
        have hB : ∀ j, j < 49 → B 6 j = A 0 j := fun j hj => by rw [hBk 6 (by omega)]; exact hB j hj
        have hFr : ∀ k, k = 2 ∨ k = 5 ∨ 11 ≤ k → B k = A k := fun k hk => (hBk k (by omega)).trans (hFr k hk)
        refine R.iinc3 hc dX7_latest_64 (lnI_dec h (by omega)) (by decide) rfl ?_
        refine R.goto (tgt := 20) hc dX7_latest_67 (by decide) ?_
        have fin : R cx 0 0 n σ 70 [some (.ref 42), some (.int (nI i1)), some (.int (nI h)), some (.int (lnI h))] [] := by
          refine R.iload_n (j := 2) (i := 2) hc rfl rfl dX7_latest_70 ?_
          exact R.iret hc rfl dX7_latest_71 ⟨rfl, by rw [e], ⟨B, L, I, hR, hS.q hW1 hW2 hN0 hFr⟩, hF⟩
        refine R.iload_n (j := 3) (i := 3) hc rfl rfl dX7_latest_20 ?_
        refine R.if_lt (tgt := 70) hc dX7_latest_21 (by decide) (fun _ => fin) (fun _ => ?_)
        refine R.iload_n (j := 2) (i := 2) hc rfl rfl dX7_latest_24 ?_
        refine R.bipush hc bp_m4 dX7_latest_25 ?_
        refine R.icmp_ne (tgt := 70) hc dX7_latest_27 (by decide) (fun _ => fin) (fun y => absurd y (nI_neg4 (by omega)))
      · have z : ¬ hasC (hoursN (a2 a 4 i1 h) np nq hr 40) i1 = true := by simp [hasC]; exact (cI_n4 (by omega)).mp z
        rw [if_neg z] at e
        refine R.bipush hc bp_m4 dX7_latest_53 ?_
        refine R.goto (tgt := 59) hc dX7_latest_55 (by decide) ?_
        refine R.istn2 hc dX7_latest_59 (by decide) rfl ?_
        refine R.aload_n (j := 0) (i := 0) hc rfl rfl dX7_latest_60 ?_
        refine R.cVu hc m_X7_backs lk_X7_210 dX7_latest_61 (c_X7_backs l (d + 6) X n hR) (hR.1) rfl rfl rfl (by omega) ⟨Nat.le_refl _, Nat.le_refl _⟩ (Nat.le_of_ble_eq_true rfl) (fun σ hX => ?_)
        obtain ⟨B, hR, hB0, hBk, hE⟩ := hX
        have hF := hF.tr hE
        have hN0 : ∀ j, j < 49 → B 0 j = A 0 j := fun j hj => (hB0 j hj).trans (hB j hj)
        have hN : NowR (B 0) a np nq hr dr := hS.n.ag hW1 hW2 hN0
        have hB : ∀ j, j < 49 → B 6 j = A 0 j := fun j hj => by rw [hBk 6 (by omega)]; exact hB j hj
        have hFr : ∀ k, k = 2 ∨ k = 5 ∨ 11 ≤ k → B k = A k := fun k hk => (hBk k (by omega)).trans (hFr k hk)
        refine R.iinc3 hc dX7_latest_64 (lnI_dec h (by omega)) (by decide) rfl ?_
        refine R.goto (tgt := 20) hc dX7_latest_67 (by decide) ?_
        exact ih (by omega) e σ B hR hN0 hB hFr hF
  refine R.bipush hc bp_m4 dX7_latest_10 ?_
  refine R.istn2 hc dX7_latest_12 (by decide) rfl ?_
  refine R.aload_n (j := 0) (i := 0) hc rfl rfl dX7_latest_13 ?_
  refine R.cVu hc m_X7_asides lk_X7_204 dX7_latest_14 (c_X7_asides l (d + 6) X n hR) (hR.1) rfl rfl rfl (by omega) ⟨Nat.le_refl _, Nat.le_refl _⟩ (Nat.le_of_ble_eq_true rfl) (fun σ hX => ?_)
  obtain ⟨B, hR, hB, hBk, hE⟩ := hX
  have hF := hF.tr hE
  have hFr : ∀ k, k = 2 ∨ k = 5 ∨ 11 ≤ k → B k = A k := fun k hk => hBk k (by omega)
  have hN : NowR (B 0) a np nq hr dr := by rw [hBk 0 (by omega)]; exact hN
  refine R.bipush hc bp_20 dX7_latest_17 ?_
  refine R.istn3 hc dX7_latest_19 (by decide) rfl ?_
  exact key 21 (Nat.le_refl _) hans.symm σ B hR (fun j _ => by rw [hBk 0 (by omega)]) hB hFr hF
theorem pop_full : ∀ k, k < 7 → ∀ S, S < 64 → S < 2 ^ k → (pop S = k ↔ S = 2 ^ k - 1) := by decide +kernel
set_option maxHeartbeats 4000000 in
set_option maxRecDepth 100000 in
theorem c_X7_wet (l : Launch) (d : Nat) (X : Nat × (Nat → Int32)) (n : Nat) {σ : Wd} {a : SA} {np nq hr dr : Nat} {hs : List SN} {im : IM} {tp : Nat → Nat} {tl : Nat} {ln sz : Nat → Nat} {it : Nat → Nat → Int64} (hC : RA σ a np nq hr dr hs im tp tl ln sz it) (hI : WI a np nq hr dr hs im tp tl ln sz) (w : Int32) : CN l yX7_wet cX7_wet 4 (some .int) ((d + 7)) X n [.ref 42, .int w] σ (fun r σ' => r = some (.int (s_wet a np nq hr w)) ∧ (RA σ' a np nq hr dr hs im tp tl ln sz it ∧ Eqo 42 17 σ σ')) := by
  refine CN.of (by decide) [some (.ref 42), some (.int w), none, none] (fun _ => Nat.le_of_ble_eq_true rfl) (fun _ => rfl) (fun cx hc => ?_)
  obtain ⟨A, L, I, hR, hS⟩ := hC
  obtain ⟨hW, hh, hdr, hwh, hwi, hU, hV⟩ := hI
  have hN := hS.n
  have hW1 := hW.1
  have hW2 := hW.2.1
  have hF : Eqo 42 17 σ σ := Eqo.rf
  refine R.iload_n (j := 1) (i := 1) hc rfl rfl dX7_wet_0 ?_
  refine R.i2l hc dX7_wet_1 ?_
  refine R.lconst (j := 1) (v := lN 1) hc rfl dX7_wet_2 ?_
  refine R.ldc2 hc kn_X7_124 dX7_wet_3 ?_
  refine R.cSr hc m_X7_in lk_X7_59 dX7_wet_6 (c_X7_in l (d + 6) X n _ _ _) rfl rfl (by omega) ⟨Nat.le_refl _, Nat.le_refl _⟩ (Nat.le_of_ble_eq_true rfl) ?_
  rw [inL_R (by decide) (by decide)]
  refine R.ifB_ne (tgt := 14) hc dX7_wet_9 (by decide) (fun q1 => ?_) (fun q1 => ?_)
  rotate_left
  · refine R.iconst hc ic_m1 dX7_wet_12 ?_
    have e9 : (-1) = s_wet a np nq hr w := by simp [s_wet, q1]
    exact R.iret hc rfl dX7_wet_13 ⟨rfl, congrArg (fun z => some (Value.int z)) e9, ⟨A, L, I, hR, hS⟩, hF⟩
  obtain ⟨i1, rfl, _, g1, t1⟩ := inR_of (by decide) (by decide) q1
  have hA : s_wet a np nq hr (nI i1) = firstF (fun v => many (rainK a v np) np nq hr i1 == nq) 61 0 := by simp [s_wet, q1, t1]
  rw [hA] at hc
  obtain ⟨ans, hans⟩ : ∃ z, z = firstF (fun v => many (rainK a v np) np nq hr i1 == nq) 61 0 := ⟨_, rfl⟩
  rw [← hans] at hc
  have h2q : 2 ^ nq ≤ 64 := Nat.le_trans (Nat.pow_le_pow_right (by omega) hW2) (by decide)
  have h2p := Nat.two_pow_pos nq
  obtain ⟨σ0, hσ0⟩ : ∃ z, z = σ := ⟨_, rfl⟩
  rw [← hσ0] at hc
  have hF : Eqo 42 17 σ0 σ := by rw [hσ0]; exact Eqo.rf
  have key : ∀ (j k : Nat) (σ : Wd) (B : Nat → Nat → Int32), k + j = 61 → firstF (fun v => many (rainK a v np) np nq hr i1 == nq) j k = ans → RW σ B L I → (∀ j, j < 49 → B 0 j = A 0 j) → (∀ j, j < 49 → B 6 j = A 0 j) → (∀ k, k = 2 ∨ k = 5 ∨ 11 ≤ k → B k = A k) → Eqo 42 17 σ0 σ → R cx 0 0 n σ 23 [some (.ref 42), some (.int (nI i1)), some (.int (-4)), some (.int (nI k))] [] := by
    intro j
    induction j with
    | zero =>
      intro k σ B hk e hR hN0 hB hFr hF
      refine R.iload_n (j := 3) (i := 3) hc rfl rfl dX7_wet_23 ?_
      refine R.bipush hc bp_61 dX7_wet_24 ?_
      refine R.icmpN_ge (tgt := 79) hc dX7_wet_26 (by decide) (by omega) (by omega) (fun _ => ?_) (fun z => absurd (by omega) z)
      refine R.iload_n (j := 2) (i := 2) hc rfl rfl dX7_wet_79 ?_
      rw [firstF] at e
      exact R.iret hc rfl dX7_wet_80 ⟨rfl, by rw [e], ⟨B, L, I, hR, hS.q hW1 hW2 hN0 hFr⟩, hF⟩
    | succ j ih =>
      intro k σ B hk e hR hN0 hB hFr hF
      rw [firstF] at e
      have hN : NowR (B 0) a np nq hr dr := hS.n.ag hW1 hW2 hN0
      have hbl := bsN_lt (hasC (hoursN (rainK a k np) np nq hr i1)) nq
      have hpf := pop_full nq (by omega) _ (by omega) hbl
      refine R.iload_n (j := 3) (i := 3) hc rfl rfl dX7_wet_23 ?_
      refine R.bipush hc bp_61 dX7_wet_24 ?_
      refine R.icmpN_ge (tgt := 79) hc dX7_wet_26 (by decide) (by omega) (by omega) (fun z => absurd z (by omega)) (fun _ => ?_)
      refine R.iload_n (j := 2) (i := 2) hc rfl rfl dX7_wet_29 ?_
      refine R.bipush hc bp_m4 dX7_wet_30 ?_
      refine R.icmp_ne (tgt := 79) hc dX7_wet_32 (by decide) (fun z => absurd rfl z) (fun _ => ?_)
      refine R.aload_n (j := 0) (i := 0) hc rfl rfl dX7_wet_35 ?_
      refine R.iload_n (j := 3) (i := 3) hc rfl rfl dX7_wet_36 ?_
      refine R.cVu hc m_X7_rains lk_X7_194 dX7_wet_37 (c_X7_rains l (d + 4) X n hR hN hW (by omega)) (hR.1) rfl rfl rfl (by omega) ⟨Nat.le_refl _, Nat.le_refl _⟩ (Nat.le_of_ble_eq_true rfl) (fun σ hX => ?_)
      obtain ⟨C, hR, hN, hCk, hE⟩ := hX
      have hF := hF.tr hE
      have hB : ∀ j, j < 49 → C 6 j = A 0 j := fun j hj => by rw [hCk 6 (by omega)]; exact hB j hj
      have hFr : ∀ k, k = 2 ∨ k = 5 ∨ 11 ≤ k → C k = A k := fun k hk => (hCk k (by omega)).trans (hFr k hk)
      refine R.aload_n (j := 0) (i := 0) hc rfl rfl dX7_wet_40 ?_
      refine R.iload_n (j := 1) (i := 1) hc rfl rfl dX7_wet_41 ?_
      refine R.cVu hc m_X7_goesOn lk_X7_207 dX7_wet_42 (c_X7_goesOn l d X n hR hN (WF_rainK hW) (by omega) (by omega)) (hR.1) rfl rfl rfl (by omega) ⟨Nat.le_refl _, Nat.le_refl _⟩ (Nat.le_of_ble_eq_true rfl) (fun σ hX => ?_)
      obtain ⟨C, hR, hN, hCk, hE⟩ := hX
      have hF := hF.tr hE
      have hB : ∀ j, j < 49 → C 6 j = A 0 j := fun j hj => by rw [hCk 6 (by omega)]; exact hB j hj
      have hFr : ∀ k, k = 2 ∨ k = 5 ∨ 11 ≤ k → C k = A k := fun k hk => (hCk k (by omega)).trans (hFr k hk)
      refine R.aload_n (j := 0) (i := 0) hc rfl rfl dX7_wet_45 ?_
      refine R.cVr hc m_X7_servedNow lk_X7_142 dX7_wet_46 (c_X7_servedNow l (d + 4) X n hR hN (WF_hoursN (WF_rainK hW) _)) (hR.1) rfl rfl rfl (by omega) ⟨Nat.le_refl _, Nat.le_refl _⟩ (Nat.le_of_ble_eq_true rfl) ?_
      refine R.iconst hc ic_1 dX7_wet_49 ?_
      refine R.aload_n (j := 0) (i := 0) hc rfl rfl dX7_wet_50 ?_
      refine R.get hc gf_X7_7_r dX7_wet_51 (hR.1) rfl ?_
      refine R.iconst hc ic_1 dX7_wet_54 ?_
      refine R.ialdV hc hR.g0 (by omega) (by decide) dX7_wet_55 (hN.2.1) ?_
      first | refine R.shl1N hc (by omega) dX7_wet_56 ?_ | refine R.ishl hc dX7_wet_56 ?_
      refine R.iconst hc ic_1 dX7_wet_57 ?_
      first | refine R.isubN hc (by omega) dX7_wet_58 ?_ | refine R.isub hc dX7_wet_58 ?_
      refine R.icmpN_ne (tgt := 66) hc dX7_wet_59 (by decide) (by omega) (by omega) (fun z => ?_) (fun z => ?_)
      · rw [if_neg (by simp [many]; exact fun y => z (hpf.mp y))] at e
        refine R.bipush hc bp_m4 dX7_wet_66 ?_
        refine R.istn2 hc dX7_wet_68 (by decide) rfl ?_
        refine R.aload_n (j := 0) (i := 0) hc rfl rfl dX7_wet_69 ?_
        refine R.cVu hc m_X7_backs lk_X7_210 dX7_wet_70 (c_X7_backs l (d + 6) X n hR) (hR.1) rfl rfl rfl (by omega) ⟨Nat.le_refl _, Nat.le_refl _⟩ (Nat.le_of_ble_eq_true rfl) (fun σ hX => ?_)
        obtain ⟨B, hR, hB0, hBk, hE⟩ := hX
        have hF := hF.tr hE
        have hN0 : ∀ j, j < 49 → B 0 j = A 0 j := fun j hj => (hB0 j hj).trans (hB j hj)
        have hN : NowR (B 0) a np nq hr dr := hS.n.ag hW1 hW2 hN0
        have hB : ∀ j, j < 49 → B 6 j = A 0 j := fun j hj => by rw [hBk 6 (by omega)]; exact hB j hj
        have hFr : ∀ k, k = 2 ∨ k = 5 ∨ 11 ≤ k → B k = A k := fun k hk => (hBk k (by omega)).trans (hFr k hk)
        refine R.iinc3 hc dX7_wet_73 (iiN1 _) (by decide) rfl ?_
        refine R.goto (tgt := 23) hc dX7_wet_76 (by decide) ?_
        exact ih (k + 1) σ B (by omega) e hR hN0 hB hFr hF
      · rw [if_pos (by simp [many]; exact hpf.mpr z)] at e
        refine R.iload_n (j := 3) (i := 3) hc rfl rfl dX7_wet_62 ?_
        refine R.goto (tgt := 68) hc dX7_wet_63 (by decide) ?_
        refine R.istn2 hc dX7_wet_68 (by decide) rfl ?_
        refine R.aload_n (j := 0) (i := 0) hc rfl rfl dX7_wet_69 ?_
        refine R.cVu hc m_X7_backs lk_X7_210 dX7_wet_70 (c_X7_backs l (d + 6) X n hR) (hR.1) rfl rfl rfl (by omega) ⟨Nat.le_refl _, Nat.le_refl _⟩ (Nat.le_of_ble_eq_true rfl) (fun σ hX => ?_)
        obtain ⟨B, hR, hB0, hBk, hE⟩ := hX
        have hF := hF.tr hE
        have hN0 : ∀ j, j < 49 → B 0 j = A 0 j := fun j hj => (hB0 j hj).trans (hB j hj)
        have hN : NowR (B 0) a np nq hr dr := hS.n.ag hW1 hW2 hN0
        have hB : ∀ j, j < 49 → B 6 j = A 0 j := fun j hj => by rw [hBk 6 (by omega)]; exact hB j hj
        have hFr : ∀ k, k = 2 ∨ k = 5 ∨ 11 ≤ k → B k = A k := fun k hk => (hBk k (by omega)).trans (hFr k hk)
        refine R.iinc3 hc dX7_wet_73 (iiN1 _) (by decide) rfl ?_
        refine R.goto (tgt := 23) hc dX7_wet_76 (by decide) ?_
        have fin : R cx 0 0 n σ 79 [some (.ref 42), some (.int (nI i1)), some (.int (nI k)), some (.int (nI (k + 1)))] [] := by
          refine R.iload_n (j := 2) (i := 2) hc rfl rfl dX7_wet_79 ?_
          exact R.iret hc rfl dX7_wet_80 ⟨rfl, by rw [e], ⟨B, L, I, hR, hS.q hW1 hW2 hN0 hFr⟩, hF⟩
        refine R.iload_n (j := 3) (i := 3) hc rfl rfl dX7_wet_23 ?_
        refine R.bipush hc bp_61 dX7_wet_24 ?_
        refine R.icmpN_ge (tgt := 79) hc dX7_wet_26 (by decide) (by omega) (by omega) (fun _ => fin) (fun _ => ?_)
        refine R.iload_n (j := 2) (i := 2) hc rfl rfl dX7_wet_29 ?_
        refine R.bipush hc bp_m4 dX7_wet_30 ?_
        refine R.icmp_ne (tgt := 79) hc dX7_wet_32 (by decide) (fun _ => fin) (fun y => absurd y (nI_neg4 (by omega)))
  refine R.bipush hc bp_m4 dX7_wet_14 ?_
  refine R.istn2 hc dX7_wet_16 (by decide) rfl ?_
  refine R.aload_n (j := 0) (i := 0) hc rfl rfl dX7_wet_17 ?_
  refine R.cVu hc m_X7_asides lk_X7_204 dX7_wet_18 (c_X7_asides l (d + 6) X n hR) (hR.1) rfl rfl rfl (by omega) ⟨Nat.le_refl _, Nat.le_refl _⟩ (Nat.le_of_ble_eq_true rfl) (fun σ hX => ?_)
  obtain ⟨B, hR, hB, hBk, hE⟩ := hX
  have hF := hF.tr hE
  have hFr : ∀ k, k = 2 ∨ k = 5 ∨ 11 ≤ k → B k = A k := fun k hk => hBk k (by omega)
  have hN : NowR (B 0) a np nq hr dr := by rw [hBk 0 (by omega)]; exact hN
  refine R.iconst hc ic_0 dX7_wet_21 ?_
  refine R.istn3 hc dX7_wet_22 (by decide) rfl ?_
  exact key 61 0 σ B rfl hans.symm hR (fun j _ => by rw [hBk 0 (by omega)]) hB hFr hF
set_option maxHeartbeats 4000000 in
set_option maxRecDepth 100000 in
theorem c_X7_matters (l : Launch) (d : Nat) (X : Nat × (Nat → Int32)) (n : Nat) {σ : Wd} {a : SA} {np nq hr dr : Nat} {hs : List SN} {im : IM} {tp : Nat → Nat} {tl : Nat} {ln sz : Nat → Nat} {it : Nat → Nat → Int64} (hC : RA σ a np nq hr dr hs im tp tl ln sz it) (hI : WI a np nq hr dr hs im tp tl ln sz) (w v : Int32) : CN l yX7_matters cX7_matters 7 (some .int) ((d + 7)) X n [.ref 42, .int w, .int v] σ (fun r σ' => r = some (.int (s_matters a np nq hr w v)) ∧ (RA σ' a np nq hr dr hs im tp tl ln sz it ∧ Eqo 42 17 σ σ')) := by
  refine CN.of (by decide) [some (.ref 42), some (.int w), some (.int v), none, none, none, none] (fun _ => Nat.le_of_ble_eq_true rfl) (fun _ => rfl) (fun cx hc => ?_)
  obtain ⟨A, L, I, hR, hS⟩ := hC
  obtain ⟨hW, hh, hdr, hwh, hwi, hU, hV⟩ := hI
  have hN := hS.n
  have hW1 := hW.1
  have hW2 := hW.2.1
  have hF : Eqo 42 17 σ σ := Eqo.rf
  refine R.iload_n (j := 1) (i := 1) hc rfl rfl dX7_matters_0 ?_
  refine R.i2l hc dX7_matters_1 ?_
  refine R.lconst (j := 1) (v := lN 1) hc rfl dX7_matters_2 ?_
  refine R.ldc2 hc kn_X7_124 dX7_matters_3 ?_
  refine R.cSr hc m_X7_in lk_X7_59 dX7_matters_6 (c_X7_in l (d + 6) X n _ _ _) rfl rfl (by omega) ⟨Nat.le_refl _, Nat.le_refl _⟩ (Nat.le_of_ble_eq_true rfl) ?_
  rw [inL_R (by decide) (by decide)]
  refine R.ifB_eq (tgt := 22) hc dX7_matters_9 (by decide) (fun q1 => ?_) (fun q1 => ?_)
  · refine R.iconst hc ic_m1 dX7_matters_22 ?_
    have e9 : (-1) = s_matters a np nq hr w v := by simp [s_matters, q1]
    exact R.iret hc rfl dX7_matters_23 ⟨rfl, congrArg (fun z => some (Value.int z)) e9, ⟨A, L, I, hR, hS⟩, hF⟩
  refine R.iload_n (j := 2) (i := 2) hc rfl rfl dX7_matters_12 ?_
  refine R.i2l hc dX7_matters_13 ?_
  refine R.lconst (j := 0) (v := lN 0) hc rfl dX7_matters_14 ?_
  refine R.lconst (j := 1) (v := lN 1) hc rfl dX7_matters_15 ?_
  refine R.cSr hc m_X7_in lk_X7_59 dX7_matters_16 (c_X7_in l (d + 6) X n _ _ _) rfl rfl (by omega) ⟨Nat.le_refl _, Nat.le_refl _⟩ (Nat.le_of_ble_eq_true rfl) ?_
  rw [inL_R (by decide) (by decide)]
  refine R.ifB_ne (tgt := 24) hc dX7_matters_19 (by decide) (fun q2 => ?_) (fun q2 => ?_)
  rotate_left
  · refine R.iconst hc ic_m1 dX7_matters_22 ?_
    have e9 : (-1) = s_matters a np nq hr w v := by simp [s_matters, q2]
    exact R.iret hc rfl dX7_matters_23 ⟨rfl, congrArg (fun z => some (Value.int z)) e9, ⟨A, L, I, hR, hS⟩, hF⟩
  obtain ⟨i1, rfl, _, g1, t1⟩ := inR_of (by decide) (by decide) q1
  obtain ⟨i2, rfl, _, g2, t2⟩ := inR_of (by decide) (by decide) q2
  have hA : s_matters a np nq hr (nI i1) (nI i2) = mtA (fun p => many (a2 a 2 p 0) np nq hr i1) np i2 := by simp [s_matters, q1, q2, t1, t2]
  rw [hA] at hc
  have hmt : ∀ k, (mtF (fun p => many (a2 a 2 p 0) np nq hr i1) k).1 ≤ k ∧ (mtF (fun p => many (a2 a 2 p 0) np nq hr i1) k).2 ≤ 6 := by
    intro k
    induction k with
    | zero => exact ⟨Nat.le_refl _, Nat.zero_le _⟩
    | succ k ih =>
      rw [mtF]
      split
      · exact ⟨Nat.le_refl _, many_le hW2⟩
      · exact ⟨by omega, ih.2⟩
  obtain ⟨σ0, hσ0⟩ : ∃ z, z = σ := ⟨_, rfl⟩
  rw [← hσ0] at hc
  have hF : Eqo 42 17 σ0 σ := by rw [hσ0]; exact Eqo.rf
  refine R.bipush hc bp_m4 dX7_matters_24 ?_
  refine R.istn3 hc dX7_matters_26 (by decide) rfl ?_
  refine R.bipush hc bp_99 dX7_matters_27 ?_
  refine R.ist4 hc dX7_matters_29 (by decide) rfl ?_
  refine R.aload_n (j := 0) (i := 0) hc rfl rfl dX7_matters_31 ?_
  refine R.cVu hc m_X7_asides lk_X7_204 dX7_matters_32 (c_X7_asides l (d + 6) X n hR) (hR.1) rfl rfl rfl (by omega) ⟨Nat.le_refl _, Nat.le_refl _⟩ (Nat.le_of_ble_eq_true rfl) (fun σ hX => ?_)
  obtain ⟨B, hR, hB, hBk, hE⟩ := hX
  have hF := hF.tr hE
  have hFr : ∀ k, k = 2 ∨ k = 5 ∨ 11 ≤ k → B k = A k := fun k hk => hBk k (by omega)
  have hN : NowR (B 0) a np nq hr dr := by rw [hBk 0 (by omega)]; exact hN
  refine R.iconst hc ic_0 dX7_matters_35 ?_
  refine R.ist5 hc dX7_matters_36 (by decide) rfl ?_
  refine rl_down (P := fun p => ∀ (σ : Wd) (B : Nat → Nat → Int32), RW σ B L I → (∀ j, j < 49 → B 0 j = A 0 j) → (∀ j, j < 49 → B 6 j = A 0 j) → (∀ k, k = 2 ∨ k = 5 ∨ 11 ≤ k → B k = A k) → Eqo 42 17 σ0 σ → R cx 0 0 n σ 38 [some (.ref 42), some (.int (nI i1)), some (.int (nI i2)), some (.int (cI (mtF (fun p => many (a2 a 2 p 0) np nq hr i1) p).1)), some (.int (nI (if (mtF (fun p => many (a2 a 2 p 0) np nq hr i1) p).1 = 0 then 99 else (mtF (fun p => many (a2 a 2 p 0) np nq hr i1) p).2))), some (.int (nI p)), none] []) np (fun σ B hR hN0 hB hFr hF => ?_) (fun p hp ih σ B hR hN0 hB hFr hF => ?_) 0 (Nat.zero_le _) σ B hR (fun j _ => by rw [hBk 0 (by omega)]) hB hFr hF
  · have hN : NowR (B 0) a np nq hr dr := hS.n.ag hW1 hW2 hN0
    have hm2 := hmt np
    refine R.iload (i := 5) hc rfl dX7_matters_38 ?_
    refine R.aload_n (j := 0) (i := 0) hc rfl rfl dX7_matters_40 ?_
    refine R.get hc gf_X7_7_r dX7_matters_41 (hR.1) rfl ?_
    refine R.iconst hc ic_0 dX7_matters_44 ?_
    refine R.ialdV hc hR.g0 (by omega) (by decide) dX7_matters_45 (hN.1) ?_
    refine R.icmpN_ge (tgt := 110) hc dX7_matters_46 (by decide) (by omega) (by omega) (fun _ => ?_) (fun z => absurd (Nat.le_refl _) z)
    refine R.iload_n (j := 2) (i := 2) hc rfl rfl dX7_matters_110 ?_
    refine R.ifN_eq (tgt := 120) hc dX7_matters_111 (by decide) (by omega) (fun z => ?_) (fun z => ?_)
    · refine R.iload_n (j := 3) (i := 3) hc rfl rfl dX7_matters_120 ?_
      refine R.goto (tgt := 126) hc dX7_matters_121 (by decide) ?_
      exact R.iret hc rfl dX7_matters_126 ⟨rfl, by rw [mtA, if_pos z], ⟨B, L, I, hR, hS.q hW1 hW2 hN0 hFr⟩, hF⟩
    · refine R.iload_n (j := 3) (i := 3) hc rfl rfl dX7_matters_114 ?_
      refine R.bipush hc bp_m4 dX7_matters_115 ?_
      refine R.icmp_ne (tgt := 124) hc dX7_matters_117 (by decide) (fun y => ?_) (fun y => ?_)
      · have y : (mtF (fun p => many (a2 a 2 p 0) np nq hr i1) np).1 ≠ 0 := fun u => y ((cI_n4 (by omega)).mpr u)
        refine R.iload (i := 4) hc rfl dX7_matters_124 ?_
        exact R.iret hc rfl dX7_matters_126 ⟨rfl, by rw [mtA, if_neg z, if_neg y, if_neg y], ⟨B, L, I, hR, hS.q hW1 hW2 hN0 hFr⟩, hF⟩
      · have y : (mtF (fun p => many (a2 a 2 p 0) np nq hr i1) np).1 = 0 := (cI_n4 (by omega)).mp y
        refine R.iload_n (j := 3) (i := 3) hc rfl rfl dX7_matters_120 ?_
        refine R.goto (tgt := 126) hc dX7_matters_121 (by decide) ?_
        exact R.iret hc rfl dX7_matters_126 ⟨rfl, by rw [mtA, if_neg z, if_pos y, y]; rfl, ⟨B, L, I, hR, hS.q hW1 hW2 hN0 hFr⟩, hF⟩
  · have hN : NowR (B 0) a np nq hr dr := hS.n.ag hW1 hW2 hN0
    have hm2 := hmt p
    have hmy : many (a2 a 2 p 0) np nq hr i1 ≤ 6 := many_le hW2
    have hfe : (if (mtF (fun p => many (a2 a 2 p 0) np nq hr i1) p).1 = 0 then 99 else (mtF (fun p => many (a2 a 2 p 0) np nq hr i1) p).2) ≤ 99 := by split <;> omega
    rw [mtF] at ih
    refine R.iload (i := 5) hc rfl dX7_matters_38 ?_
    refine R.aload_n (j := 0) (i := 0) hc rfl rfl dX7_matters_40 ?_
    refine R.get hc gf_X7_7_r dX7_matters_41 (hR.1) rfl ?_
    refine R.iconst hc ic_0 dX7_matters_44 ?_
    refine R.ialdV hc hR.g0 (by omega) (by decide) dX7_matters_45 (hN.1) ?_
    refine R.icmpN_ge (tgt := 110) hc dX7_matters_46 (by decide) (by omega) (by omega) (fun z => absurd z (by omega)) (fun _ => ?_)
    refine R.aload_n (j := 0) (i := 0) hc rfl rfl dX7_matters_49 ?_
    refine R.iload (i := 5) hc rfl dX7_matters_50 ?_
    refine R.iconst hc ic_0 dX7_matters_52 ?_
    refine R.cVu hc m_X7_deeps lk_X7_102 dX7_matters_53 (c_X7_deeps l (d + 6) X n hR (by omega) _) (hR.1) rfl rfl rfl (by omega) ⟨Nat.le_refl _, Nat.le_refl _⟩ (Nat.le_of_ble_eq_true rfl) (fun σ hX => ?_)
    obtain ⟨hR, hE⟩ := hX
    have hF := hF.tr hE
    rw [show clI (nI 0) = nI 0 by decide] at hR
    have hN : NowR (A2 B 0 (4 + 3 * p + 2) (nI 0) 0) (a2 a 2 p 0) np nq hr dr := by rw [A2_s]; exact hN.wp (by omega) (by omega)
    have hB : ∀ j, j < 49 → A2 B 0 (4 + 3 * p + 2) (nI 0) 6 j = A 0 j := fun j hj => by rw [A2_n (by omega)]; exact hB j hj
    have hFr : ∀ k, k = 2 ∨ k = 5 ∨ 11 ≤ k → (A2 B 0 (4 + 3 * p + 2) (nI 0)) k = A k := fun k hk => by rw [A2_n (by omega)]; exact hFr k hk
    refine R.aload_n (j := 0) (i := 0) hc rfl rfl dX7_matters_56 ?_
    refine R.iload_n (j := 1) (i := 1) hc rfl rfl dX7_matters_57 ?_
    refine R.cVu hc m_X7_goesOn lk_X7_207 dX7_matters_58 (c_X7_goesOn l d X n hR hN (WF_dep hW (Nat.zero_le _)) (by omega) (by omega)) (hR.1) rfl rfl rfl (by omega) ⟨Nat.le_refl _, Nat.le_refl _⟩ (Nat.le_of_ble_eq_true rfl) (fun σ hX => ?_)
    obtain ⟨C, hR, hN, hCk, hE⟩ := hX
    have hF := hF.tr hE
    have hB : ∀ j, j < 49 → C 6 j = A 0 j := fun j hj => by rw [hCk 6 (by omega)]; exact hB j hj
    have hFr : ∀ k, k = 2 ∨ k = 5 ∨ 11 ≤ k → C k = A k := fun k hk => (hCk k (by omega)).trans (hFr k hk)
    refine R.aload_n (j := 0) (i := 0) hc rfl rfl dX7_matters_61 ?_
    refine R.cVr hc m_X7_servedNow lk_X7_142 dX7_matters_62 (c_X7_servedNow l (d + 4) X n hR hN (WF_hoursN (WF_dep hW (Nat.zero_le _)) _)) (hR.1) rfl rfl rfl (by omega) ⟨Nat.le_refl _, Nat.le_refl _⟩ (Nat.le_of_ble_eq_true rfl) ?_
    refine R.cSr hc m_X7_many lk_X7_219 dX7_matters_65 (c_X7_many l (d + 6) X n (Nat.lt_of_lt_of_le (bsN_lt _ _) (Nat.pow_le_pow_right (by omega) (by omega : nq ≤ 7)))) rfl rfl (by omega) ⟨Nat.le_refl _, Nat.le_refl _⟩ (Nat.le_of_ble_eq_true rfl) ?_
    obtain ⟨my, hmq⟩ : ∃ z, z = many (a2 a 2 p 0) np nq hr i1 := ⟨_, rfl⟩
    rw [show pop (bsN (hasC (hoursN (a2 a 2 p 0) np nq hr i1)) nq) = my from hmq.symm]
    rw [← hmq] at hmy ih
    refine R.ist6 hc dX7_matters_68 (by decide) rfl ?_
    refine R.aload_n (j := 0) (i := 0) hc rfl rfl dX7_matters_70 ?_
    refine R.cVu hc m_X7_backs lk_X7_210 dX7_matters_71 (c_X7_backs l (d + 6) X n hR) (hR.1) rfl rfl rfl (by omega) ⟨Nat.le_refl _, Nat.le_refl _⟩ (Nat.le_of_ble_eq_true rfl) (fun σ hX => ?_)
    obtain ⟨B, hR, hB0, hBk, hE⟩ := hX
    have hF := hF.tr hE
    have hN0 : ∀ j, j < 49 → B 0 j = A 0 j := fun j hj => (hB0 j hj).trans (hB j hj)
    have hN : NowR (B 0) a np nq hr dr := hS.n.ag hW1 hW2 hN0
    have hB : ∀ j, j < 49 → B 6 j = A 0 j := fun j hj => by rw [hBk 6 (by omega)]; exact hB j hj
    have hFr : ∀ k, k = 2 ∨ k = 5 ∨ 11 ≤ k → B k = A k := fun k hk => (hBk k (by omega)).trans (hFr k hk)
    refine R.iload (i := 6) hc rfl dX7_matters_74 ?_
    refine R.iload (i := 4) hc rfl dX7_matters_76 ?_
    obtain ⟨⟨f1, f2⟩, hff⟩ : ∃ z, z = mtF (fun p => many (a2 a 2 p 0) np nq hr i1) p := ⟨_, rfl⟩
    rw [← hff] at ih hm2 hfe ⊢
    simp only at ih hm2 hfe ⊢
    refine R.icmpN_ge (tgt := 86) hc dX7_matters_78 (by decide) (by omega) (by omega) (fun z => ?_) (fun z => ?_)
    · have z9 : ¬ (f1 = 0 ∨ my < f2) := by
        by_cases y : f1 = 0
        · rw [if_pos y] at z; omega
        · rw [if_neg y] at z; omega
      rw [if_neg z9] at ih
      refine R.iload_n (j := 3) (i := 3) hc rfl rfl dX7_matters_86 ?_
      refine R.istn3 hc dX7_matters_87 (by decide) rfl ?_
      refine R.iload (i := 6) hc rfl dX7_matters_88 ?_
      refine R.iload (i := 4) hc rfl dX7_matters_90 ?_
      refine R.icmpN_ge (tgt := 100) hc dX7_matters_92 (by decide) (by omega) (by omega) (fun _ => ?_) (fun y => absurd z y)
      refine R.iload (i := 4) hc rfl dX7_matters_100 ?_
      refine R.ist4 hc dX7_matters_102 (by decide) rfl ?_
      refine R.iinc5 hc dX7_matters_104 (iiN1 _) (by decide) rfl ?_
      refine R.goto (tgt := 38) hc dX7_matters_107 (by decide) ?_
      exact R.fg6 (ih σ B hR hN0 hB hFr hF)
    · have z9 : f1 = 0 ∨ my < f2 := by
        by_cases y : f1 = 0
        · exact Or.inl y
        · rw [if_neg y] at z; omega
      rw [if_pos z9] at ih
      simp only [if_neg (show ¬ p + 1 = 0 by omega), cI] at ih
      refine R.iload (i := 5) hc rfl dX7_matters_81 ?_
      refine R.goto (tgt := 87) hc dX7_matters_83 (by decide) ?_
      refine R.istn3 hc dX7_matters_87 (by decide) rfl ?_
      refine R.iload (i := 6) hc rfl dX7_matters_88 ?_
      refine R.iload (i := 4) hc rfl dX7_matters_90 ?_
      refine R.icmpN_ge (tgt := 100) hc dX7_matters_92 (by decide) (by omega) (by omega) (fun y => absurd y z) (fun _ => ?_)
      refine R.iload (i := 6) hc rfl dX7_matters_95 ?_
      refine R.goto (tgt := 102) hc dX7_matters_97 (by decide) ?_
      refine R.ist4 hc dX7_matters_102 (by decide) rfl ?_
      refine R.iinc5 hc dX7_matters_104 (iiN1 _) (by decide) rfl ?_
      refine R.goto (tgt := 38) hc dX7_matters_107 (by decide) ?_
      exact R.fg6 (ih σ B hR hN0 hB hFr hF)
theorem lnI_le9 : ∀ c, c < 20 → ∀ h, h < 20 → (nI h ≤ lnI c ↔ ¬ c ≤ h) := by decide +kernel
set_option maxHeartbeats 4000000 in
set_option maxRecDepth 100000 in
theorem c_X7_sight (l : Launch) (d : Nat) (X : Nat × (Nat → Int32)) (n : Nat) {σ : Wd} {a : SA} {np nq hr dr : Nat} {hs : List SN} {im : IM} {tp : Nat → Nat} {tl : Nat} {ln sz : Nat → Nat} {it : Nat → Nat → Int64} (hC : RA σ a np nq hr dr hs im tp tl ln sz it) (hI : WI a np nq hr dr hs im tp tl ln sz) (p w v : Int32) : CN l yX7_sight cX7_sight 8 (some .int) ((d + 7)) X n [.ref 42, .int p, .int w, .int v] σ (fun r σ' => r = some (.int (s_sight a np nq hr p w v)) ∧ (RA σ' a np nq hr dr hs im tp tl ln sz it ∧ Eqo 42 17 σ σ')) := by
  refine CN.of (by decide) [some (.ref 42), some (.int p), some (.int w), some (.int v), none, none, none, none] (fun _ => Nat.le_of_ble_eq_true rfl) (fun _ => rfl) (fun cx hc => ?_)
  obtain ⟨A, L, I, hR, hS⟩ := hC
  obtain ⟨hW, hh, hdr, hwh, hwi, hU, hV⟩ := hI
  have hN := hS.n
  have hW1 := hW.1
  have hW2 := hW.2.1
  have hF : Eqo 42 17 σ σ := Eqo.rf
  refine R.aload_n (j := 0) (i := 0) hc rfl rfl dX7_sight_0 ?_
  refine R.iload_n (j := 1) (i := 1) hc rfl rfl dX7_sight_1 ?_
  refine R.cVr hc m_X7_isPuddle lk_X7_74 dX7_sight_2 (c_X7_isPuddle l (d + 5) X n hR hN hW _) (hR.1) rfl rfl rfl (by omega) ⟨Nat.le_refl _, Nat.le_refl _⟩ (Nat.le_of_ble_eq_true rfl) ?_
  refine R.ifB_eq (tgt := 30) hc dX7_sight_5 (by decide) (fun q0 => ?_) (fun q0 => ?_)
  · refine R.iconst hc ic_m1 dX7_sight_30 ?_
    have e9 : (-1) = s_sight a np nq hr p w v := by simp [s_sight, q0]
    exact R.iret hc rfl dX7_sight_31 ⟨rfl, congrArg (fun z => some (Value.int z)) e9, ⟨A, L, I, hR, hS⟩, hF⟩
  refine R.iload_n (j := 2) (i := 2) hc rfl rfl dX7_sight_8 ?_
  refine R.i2l hc dX7_sight_9 ?_
  refine R.lconst (j := 1) (v := lN 1) hc rfl dX7_sight_10 ?_
  refine R.ldc2 hc kn_X7_124 dX7_sight_11 ?_
  refine R.cSr hc m_X7_in lk_X7_59 dX7_sight_14 (c_X7_in l (d + 6) X n _ _ _) rfl rfl (by omega) ⟨Nat.le_refl _, Nat.le_refl _⟩ (Nat.le_of_ble_eq_true rfl) ?_
  rw [inL_R (by decide) (by decide)]
  refine R.ifB_eq (tgt := 30) hc dX7_sight_17 (by decide) (fun q1 => ?_) (fun q1 => ?_)
  · refine R.iconst hc ic_m1 dX7_sight_30 ?_
    have e9 : (-1) = s_sight a np nq hr p w v := by simp [s_sight, q1]
    exact R.iret hc rfl dX7_sight_31 ⟨rfl, congrArg (fun z => some (Value.int z)) e9, ⟨A, L, I, hR, hS⟩, hF⟩
  refine R.iload_n (j := 3) (i := 3) hc rfl rfl dX7_sight_20 ?_
  refine R.i2l hc dX7_sight_21 ?_
  refine R.lconst (j := 0) (v := lN 0) hc rfl dX7_sight_22 ?_
  refine R.lconst (j := 1) (v := lN 1) hc rfl dX7_sight_23 ?_
  refine R.cSr hc m_X7_in lk_X7_59 dX7_sight_24 (c_X7_in l (d + 6) X n _ _ _) rfl rfl (by omega) ⟨Nat.le_refl _, Nat.le_refl _⟩ (Nat.le_of_ble_eq_true rfl) ?_
  rw [inL_R (by decide) (by decide)]
  refine R.ifB_ne (tgt := 32) hc dX7_sight_27 (by decide) (fun q2 => ?_) (fun q2 => ?_)
  rotate_left
  · refine R.iconst hc ic_m1 dX7_sight_30 ?_
    have e9 : (-1) = s_sight a np nq hr p w v := by simp [s_sight, q2]
    exact R.iret hc rfl dX7_sight_31 ⟨rfl, congrArg (fun z => some (Value.int z)) e9, ⟨A, L, I, hR, hS⟩, hF⟩
  obtain ⟨i0, rfl, g0, t0⟩ := inI_tN (by omega) q0
  obtain ⟨i1, rfl, _, g1, t1⟩ := inR_of (by decide) (by decide) q1
  obtain ⟨i2, rfl, _, g2, t2⟩ := inR_of (by decide) (by decide) q2
  have hA : s_sight a np nq hr (nI i0) (nI i1) (nI i2) = stA (fun s => many (a2 a 1 i0 s) np nq hr i1) i2 := by simp [s_sight, q0, q1, q2, t0, t1, t2]
  rw [hA] at hc
  have hmt : ∀ k, (stF (fun s => many (a2 a 1 i0 s) np nq hr i1) k).1 ≤ k ∧ (stF (fun s => many (a2 a 1 i0 s) np nq hr i1) k).2 ≤ 7 := by
    intro k
    induction k with
    | zero => exact ⟨Nat.le_refl _, Nat.zero_le _⟩
    | succ k ih =>
      rw [stF]
      split
      · exact ⟨Nat.le_succ _, Nat.succ_le_succ (many_le hW2)⟩
      · exact ⟨by omega, ih.2⟩
  obtain ⟨σ0, hσ0⟩ : ∃ z, z = σ := ⟨_, rfl⟩
  rw [← hσ0] at hc
  have hF : Eqo 42 17 σ0 σ := by rw [hσ0]; exact Eqo.rf
  refine R.iconst hc ic_0 dX7_sight_32 ?_
  refine R.ist4 hc dX7_sight_33 (by decide) rfl ?_
  refine R.iconst hc ic_m1 dX7_sight_35 ?_
  refine R.ist5 hc dX7_sight_36 (by decide) rfl ?_
  refine R.aload_n (j := 0) (i := 0) hc rfl rfl dX7_sight_38 ?_
  refine R.cVu hc m_X7_asides lk_X7_204 dX7_sight_39 (c_X7_asides l (d + 6) X n hR) (hR.1) rfl rfl rfl (by omega) ⟨Nat.le_refl _, Nat.le_refl _⟩ (Nat.le_of_ble_eq_true rfl) (fun σ hX => ?_)
  obtain ⟨B, hR, hB, hBk, hE⟩ := hX
  have hF := hF.tr hE
  have hFr : ∀ k, k = 2 ∨ k = 5 ∨ 11 ≤ k → B k = A k := fun k hk => hBk k (by omega)
  have hN : NowR (B 0) a np nq hr dr := by rw [hBk 0 (by omega)]; exact hN
  refine R.iconst hc ic_0 dX7_sight_42 ?_
  refine R.ist6 hc dX7_sight_43 (by decide) rfl ?_
  refine rl_down (P := fun s => ∀ (σ : Wd) (B : Nat → Nat → Int32), RW σ B L I → (∀ j, j < 49 → B 0 j = A 0 j) → (∀ j, j < 49 → B 6 j = A 0 j) → (∀ k, k = 2 ∨ k = 5 ∨ 11 ≤ k → B k = A k) → Eqo 42 17 σ0 σ → R cx 0 0 n σ 45 [some (.ref 42), some (.int (nI i0)), some (.int (nI i1)), some (.int (nI i2)), some (.int (nI (stF (fun s => many (a2 a 1 i0 s) np nq hr i1) s).1)), some (.int (lnI (stF (fun s => many (a2 a 1 i0 s) np nq hr i1) s).2)), some (.int (nI s)), none] []) 8 (fun σ B hR hN0 hB hFr hF => ?_) (fun s hs8 ih σ B hR hN0 hB hFr hF => ?_) 0 (Nat.zero_le _) σ B hR (fun j _ => by rw [hBk 0 (by omega)]) hB hFr hF
  · refine R.iload (i := 6) hc rfl dX7_sight_45 ?_
    refine R.bipush hc bp_8 dX7_sight_47 ?_
    refine R.icmpN_ge (tgt := 122) hc dX7_sight_49 (by decide) (by omega) (by omega) (fun _ => ?_) (fun z => absurd (Nat.le_refl _) z)
    refine R.iload_n (j := 3) (i := 3) hc rfl rfl dX7_sight_122 ?_
    refine R.ifN_ne (tgt := 131) hc dX7_sight_123 (by decide) (by omega) (fun z => ?_) (fun z => ?_)
    · refine R.iload (i := 5) hc rfl dX7_sight_131 ?_
      exact R.iret hc rfl dX7_sight_133 ⟨rfl, by rw [stA, if_neg z], ⟨B, L, I, hR, hS.q hW1 hW2 hN0 hFr⟩, hF⟩
    · refine R.iload (i := 4) hc rfl dX7_sight_126 ?_
      refine R.goto (tgt := 133) hc dX7_sight_128 (by decide) ?_
      exact R.iret hc rfl dX7_sight_133 ⟨rfl, by rw [stA, if_pos z], ⟨B, L, I, hR, hS.q hW1 hW2 hN0 hFr⟩, hF⟩
  · have hN : NowR (B 0) a np nq hr dr := hS.n.ag hW1 hW2 hN0
    have hm2 := hmt s
    have hmy : many (a2 a 1 i0 s) np nq hr i1 ≤ 6 := many_le hW2
    rw [stF] at ih
    refine R.iload (i := 6) hc rfl dX7_sight_45 ?_
    refine R.bipush hc bp_8 dX7_sight_47 ?_
    refine R.icmpN_ge (tgt := 122) hc dX7_sight_49 (by decide) (by omega) (by omega) (fun z => absurd z (by omega)) (fun _ => ?_)
    refine R.aload_n (j := 0) (i := 0) hc rfl rfl dX7_sight_52 ?_
    refine R.get hc gf_X7_7_r dX7_sight_53 (hR.1) rfl ?_
    refine R.iconst hc ic_4 dX7_sight_56 ?_
    refine R.iconst hc ic_3 dX7_sight_57 ?_
    refine R.iload_n (j := 1) (i := 1) hc rfl rfl dX7_sight_58 ?_
    first | refine R.imulN hc dX7_sight_59 ?_ | refine R.imul hc dX7_sight_59 ?_
    first | refine R.iaddN hc dX7_sight_60 ?_ | refine R.iadd hc dX7_sight_60 ?_
    refine R.iconst hc ic_1 dX7_sight_61 ?_
    first | refine R.iaddN hc dX7_sight_62 ?_ | refine R.iadd hc dX7_sight_62 ?_
    refine R.iload (i := 6) hc rfl dX7_sight_63 ?_
    refine R.iastG hc dX7_sight_65 hR.g0 (by omega) (by decide) (fun σ hX hE => ?_)
    have hR := hR.w0 hX hE
    have hF := hF.tr (hE.wid (by omega))
    have hN : NowR (A2 B 0 (4 + 3 * i0 + 1) (nI s) 0) (a2 a 1 i0 s) np nq hr dr := by rw [A2_s]; exact hN.wp (k := 1) (by omega) (by omega)
    have hB : ∀ j, j < 49 → A2 B 0 (4 + 3 * i0 + 1) (nI s) 6 j = A 0 j := fun j hj => by rw [A2_n (by omega)]; exact hB j hj
    have hFr : ∀ k, k = 2 ∨ k = 5 ∨ 11 ≤ k → (A2 B 0 (4 + 3 * i0 + 1) (nI s)) k = A k := fun k hk => by rw [A2_n (by omega)]; exact hFr k hk
    refine R.aload_n (j := 0) (i := 0) hc rfl rfl dX7_sight_66 ?_
    refine R.iload_n (j := 2) (i := 2) hc rfl rfl dX7_sight_67 ?_
    refine R.cVu hc m_X7_goesOn lk_X7_207 dX7_sight_68 (c_X7_goesOn l d X n hR hN (WF_sight hW (by omega)) (by omega) (by omega)) (hR.1) rfl rfl rfl (by omega) ⟨Nat.le_refl _, Nat.le_refl _⟩ (Nat.le_of_ble_eq_true rfl) (fun σ hX => ?_)
    obtain ⟨C, hR, hN, hCk, hE⟩ := hX
    have hF := hF.tr hE
    have hB : ∀ j, j < 49 → C 6 j = A 0 j := fun j hj => by rw [hCk 6 (by omega)]; exact hB j hj
    have hFr : ∀ k, k = 2 ∨ k = 5 ∨ 11 ≤ k → C k = A k := fun k hk => (hCk k (by omega)).trans (hFr k hk)
    refine R.aload_n (j := 0) (i := 0) hc rfl rfl dX7_sight_71 ?_
    refine R.cVr hc m_X7_servedNow lk_X7_142 dX7_sight_72 (c_X7_servedNow l (d + 4) X n hR hN (WF_hoursN (WF_sight hW (by omega)) _)) (hR.1) rfl rfl rfl (by omega) ⟨Nat.le_refl _, Nat.le_refl _⟩ (Nat.le_of_ble_eq_true rfl) ?_
    refine R.cSr hc m_X7_many lk_X7_219 dX7_sight_75 (c_X7_many l (d + 6) X n (Nat.lt_of_lt_of_le (bsN_lt _ _) (Nat.pow_le_pow_right (by omega) (by omega : nq ≤ 7)))) rfl rfl (by omega) ⟨Nat.le_refl _, Nat.le_refl _⟩ (Nat.le_of_ble_eq_true rfl) ?_
    obtain ⟨my, hmq⟩ : ∃ z, z = many (a2 a 1 i0 s) np nq hr i1 := ⟨_, rfl⟩
    rw [show pop (bsN (hasC (hoursN (a2 a 1 i0 s) np nq hr i1)) nq) = my from hmq.symm]
    rw [← hmq] at hmy ih
    refine R.ist7 hc dX7_sight_78 (by decide) rfl ?_
    refine R.aload_n (j := 0) (i := 0) hc rfl rfl dX7_sight_80 ?_
    refine R.cVu hc m_X7_backs lk_X7_210 dX7_sight_81 (c_X7_backs l (d + 6) X n hR) (hR.1) rfl rfl rfl (by omega) ⟨Nat.le_refl _, Nat.le_refl _⟩ (Nat.le_of_ble_eq_true rfl) (fun σ hX => ?_)
    obtain ⟨B, hR, hB0, hBk, hE⟩ := hX
    have hF := hF.tr hE
    have hN0 : ∀ j, j < 49 → B 0 j = A 0 j := fun j hj => (hB0 j hj).trans (hB j hj)
    have hN : NowR (B 0) a np nq hr dr := hS.n.ag hW1 hW2 hN0
    have hB : ∀ j, j < 49 → B 6 j = A 0 j := fun j hj => by rw [hBk 6 (by omega)]; exact hB j hj
    have hFr : ∀ k, k = 2 ∨ k = 5 ∨ 11 ≤ k → B k = A k := fun k hk => (hBk k (by omega)).trans (hFr k hk)
    refine R.iload (i := 7) hc rfl dX7_sight_84 ?_
    refine R.iload (i := 5) hc rfl dX7_sight_86 ?_
    obtain ⟨⟨f1, f2⟩, hff⟩ : ∃ z, z = stF (fun s => many (a2 a 1 i0 s) np nq hr i1) s := ⟨_, rfl⟩
    rw [← hff] at ih hm2 ⊢
    simp only at ih hm2 ⊢
    have hle := lnI_le9 f2 (by omega) my (by omega)
    refine R.icmp_le (tgt := 96) hc dX7_sight_88 (by decide) (fun z => ?_) (fun z => ?_)
    · rw [if_neg (hle.mp z)] at ih
      refine R.iload (i := 4) hc rfl dX7_sight_96 ?_
      refine R.ist4 hc dX7_sight_98 (by decide) rfl ?_
      refine R.iload (i := 7) hc rfl dX7_sight_100 ?_
      refine R.iload (i := 5) hc rfl dX7_sight_102 ?_
      refine R.icmp_le (tgt := 112) hc dX7_sight_104 (by decide) (fun _ => ?_) (fun y => absurd z y)
      refine R.iload (i := 5) hc rfl dX7_sight_112 ?_
      refine R.ist5 hc dX7_sight_114 (by decide) rfl ?_
      refine R.iinc6 hc dX7_sight_116 (iiN1 _) (by decide) rfl ?_
      refine R.goto (tgt := 45) hc dX7_sight_119 (by decide) ?_
      exact R.fg7 (ih σ B hR hN0 hB hFr hF)
    · have z9 : f2 ≤ my := by rcases Nat.lt_or_ge my f2 with y | y; exact absurd (hle.mpr (by omega)) z; exact y
      rw [if_pos z9] at ih
      simp only [lnI] at ih
      refine R.iload (i := 6) hc rfl dX7_sight_91 ?_
      refine R.goto (tgt := 98) hc dX7_sight_93 (by decide) ?_
      refine R.ist4 hc dX7_sight_98 (by decide) rfl ?_
      refine R.iload (i := 7) hc rfl dX7_sight_100 ?_
      refine R.iload (i := 5) hc rfl dX7_sight_102 ?_
      refine R.icmp_le (tgt := 112) hc dX7_sight_104 (by decide) (fun y => absurd y z) (fun _ => ?_)
      refine R.iload (i := 7) hc rfl dX7_sight_107 ?_
      refine R.goto (tgt := 114) hc dX7_sight_109 (by decide) ?_
      refine R.ist5 hc dX7_sight_114 (by decide) rfl ?_
      refine R.iinc6 hc dX7_sight_116 (iiN1 _) (by decide) rfl ?_
      refine R.goto (tgt := 45) hc dX7_sight_119 (by decide) ?_
      exact R.fg7 (ih σ B hR hN0 hB hFr hF)
