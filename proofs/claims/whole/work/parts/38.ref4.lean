theorem lN_an (a b : Nat) : lN a &&& lN b = lN (a &&& b) := Int64.toBitVec_inj.mp (by unfold lN; rw [Int64.toBitVec_and, Int64.toBitVec_ofNat', Int64.toBitVec_ofNat', Int64.toBitVec_ofNat', BitVec.ofNat_and])
/-- how far a street is set back -/
def bkP (a s : SA) (P Q : Nat) : SA := fun k j => if (k = 2 ∧ j < P) ∨ ((k = 4 ∨ k = 6) ∧ j < Q) then s k j else a k j
theorem bkP_n {a s : SA} {P Q k j : Nat} (h : ¬ ((k = 2 ∧ j < P) ∨ ((k = 4 ∨ k = 6) ∧ j < Q))) : bkP a s P Q k j = a k j := if_neg h
theorem bkP_y {a s : SA} {P Q k j : Nat} (h : (k = 2 ∧ j < P) ∨ ((k = 4 ∨ k = 6) ∧ j < Q)) : bkP a s P Q k j = s k j := if_pos h
theorem bk_p {f : Nat → Int32} {a s : SA} {np nq hr dr P : Nat} {x : Int32} (h : NowR f (bkP a s P 0) np nq hr dr) (hP : P < 7) (hx : P < np → x = nI (s 2 P)) : NowR (upd f (4 + 3 * P + 2) x) (bkP a s (P + 1) 0) np nq hr dr := by
  obtain ⟨h0, h1, h2, h3, h4, h5, h6⟩ := h
  refine ⟨by rw [pk_un (by omega)]; exact h0, by rw [pk_un (by omega)]; exact h1, by rw [pk_un (by omega)]; exact h2, by rw [pk_un (by omega)]; exact h3, fun k hk p hp => ?_, fun k hk q hq => ?_, fun q hq => ?_⟩
  · by_cases e : k = 2 ∧ p = P
    · obtain ⟨rfl, rfl⟩ := e
      rw [pk_us, bkP_y (by omega)]; exact hx hp
    · rw [pk_un (by omega), h4 k hk p hp]
      by_cases y : k = 2 ∧ p < P
      · rw [bkP_y (by omega), bkP_y (by omega)]
      · rw [bkP_n (by omega), bkP_n (by omega)]
  · rw [pk_un (by omega), h5 k hk q hq, bkP_n (by omega), bkP_n (by omega)]
  · rw [pk_un (by omega), h6 q hq, bkP_n (by omega), bkP_n (by omega)]
theorem bk_q {f : Nat → Int32} {a s : SA} {np nq hr dr Q : Nat} {x y : Int32} (h : NowR f (bkP a s 7 Q) np nq hr dr) (hp7 : np ≤ 7) (hx : Q < nq → x = nI (s 4 Q)) (hy : Q < nq → y = cI (s 6 Q)) : NowR (upd (upd f (25 + 4 * Q + 1) x) (25 + 4 * Q + 3) y) (bkP a s 7 (Q + 1)) np nq hr dr := by
  obtain ⟨h0, h1, h2, h3, h4, h5, h6⟩ := h
  refine ⟨by rw [pk_un (by omega), pk_un (by omega)]; exact h0, by rw [pk_un (by omega), pk_un (by omega)]; exact h1, by rw [pk_un (by omega), pk_un (by omega)]; exact h2, by rw [pk_un (by omega), pk_un (by omega)]; exact h3, fun k hk p hp => ?_, fun k hk q hq => ?_, fun q hq => ?_⟩
  · rw [pk_un (by omega), pk_un (by omega), h4 k hk p hp]
    by_cases e : k = 2 ∧ p < 7
    · rw [bkP_y (by omega), bkP_y (by omega)]
    · rw [bkP_n (by omega), bkP_n (by omega)]
  · rw [pk_un (by omega)]
    by_cases e : k = 1 ∧ q = Q
    · obtain ⟨rfl, rfl⟩ := e
      rw [pk_us, bkP_y (by omega)]; exact hx hq
    · rw [pk_un (by omega), h5 k hk q hq]
      by_cases z : k = 1 ∧ q < Q
      · rw [bkP_y (by omega), bkP_y (by omega)]
      · rw [bkP_n (by omega), bkP_n (by omega)]
  · by_cases e : q = Q
    · subst e
      rw [pk_us, bkP_y (by omega)]; exact hy hq
    · rw [pk_un (by omega), pk_un (by omega), h6 q hq]
      by_cases z : q < Q
      · rw [bkP_y (by omega), bkP_y (by omega)]
      · rw [bkP_n (by omega), bkP_n (by omega)]
set_option maxHeartbeats 4000000 in
set_option maxRecDepth 100000 in
theorem c_X7_hours (l : Launch) (d : Nat) (X : Nat × (Nat → Int32)) (n : Nat) {σ : Wd} {a : SA} {np nq hr dr : Nat} {hs : List SN} {im : IM} {tp : Nat → Nat} {tl : Nat} {ln sz : Nat → Nat} {it : Nat → Nat → Int64} (hC : RA σ a np nq hr dr hs im tp tl ln sz it) (hI : WI a np nq hr dr hs im tp tl ln sz) (w : Int32) : CN l yX7_hours cX7_hours 3 (some .int) ((d + 6)) X n [.ref 42, .int w] σ (fun r σ' => r = some (.int (s_hours false np nq a hr dr hs w)) ∧ ((if okH hr w = true then RA σ' (pH false np nq a hr dr hs (tN w)).1 np nq (pH false np nq a hr dr hs (tN w)).2.1 (pH false np nq a hr dr hs (tN w)).2.2.1 (pH false np nq a hr dr hs (tN w)).2.2.2 im tp tl ln sz it else RA σ' a np nq hr dr hs im tp tl ln sz it) ∧ Eqo 42 17 σ σ')) := by
  refine CN.of (by decide) [some (.ref 42), some (.int w), none] (fun _ => Nat.le_of_ble_eq_true rfl) (fun _ => rfl) (fun cx hc => ?_)
  obtain ⟨A, L, I, hR, hS⟩ := hC
  obtain ⟨hW, hh, hdr, hwh, hwi, hU, hV⟩ := hI
  have hN := hS.n
  have hW1 := hW.1
  have hW2 := hW.2.1
  have hF : Eqo 42 17 σ σ := Eqo.rf
  refine R.iload_n (j := 1) (i := 1) hc rfl rfl dX7_hours_0 ?_
  refine R.i2l hc dX7_hours_1 ?_
  refine R.lconst (j := 1) (v := lN 1) hc rfl dX7_hours_2 ?_
  refine R.ldc2 hc kn_X7_189 dX7_hours_3 ?_
  refine R.cSr hc m_X7_in lk_X7_59 dX7_hours_6 (c_X7_in l (d + 5) X n _ _ _) rfl rfl (by omega) ⟨Nat.le_refl _, Nat.le_refl _⟩ (Nat.le_of_ble_eq_true rfl) ?_
  rw [inL_R (by decide) (by decide)]
  refine R.ifB_ne (tgt := 14) hc dX7_hours_9 (by decide) (fun q1 => ?_) (fun q1 => ?_)
  rotate_left
  · refine R.iconst hc ic_m1 dX7_hours_12 ?_
    have e9 : (-1) = s_hours false np nq a hr dr hs w := by simp [s_hours, q1]
    exact R.iret hc rfl dX7_hours_13 ⟨rfl, congrArg (fun z => some (Value.int z)) e9, by rw [if_neg (by simp [okH, q1])]; exact ⟨A, L, I, hR, hS⟩, hF⟩
  obtain ⟨i1, rfl, _, g1, t1⟩ := inR_of (by decide) (by decide) q1
  refine R.aload_n (j := 0) (i := 0) hc rfl rfl dX7_hours_14 ?_
  refine R.get hc gf_X7_7_r dX7_hours_15 (hR.1) rfl ?_
  refine R.iconst hc ic_2 dX7_hours_18 ?_
  refine R.ialdV hc hR.g0 (by omega) (by decide) dX7_hours_19 (hN.2.2.1) ?_
  refine R.iload_n (j := 1) (i := 1) hc rfl rfl dX7_hours_20 ?_
  first | refine R.iaddN hc dX7_hours_21 ?_ | refine R.iadd hc dX7_hours_21 ?_
  refine R.sipush hc sp_9999 dX7_hours_22 ?_
  refine R.icmpN_le (tgt := 31) hc dX7_hours_25 (by decide) (by omega) (by omega) (fun q2 => ?_) (fun q2 => ?_)
  rotate_left
  · refine R.bipush hc bp_m3 dX7_hours_28 ?_
    have e9 : (-3) = s_hours false np nq a hr dr hs (nI i1) := by simp [s_hours, q1, t1, show ¬ hr + i1 ≤ 9999 by omega]
    exact R.iret hc rfl dX7_hours_30 ⟨rfl, congrArg (fun z => some (Value.int z)) e9, by rw [if_neg (by simp [okH, t1]; omega)]; exact ⟨A, L, I, hR, hS⟩, hF⟩
  have hok : okH hr (nI i1) = true := by simp [okH, q1, t1]; omega
  have hA : s_hours false np nq a hr dr hs (nI i1) = nI (bsN (hasC (pH false np nq a hr dr hs i1).1) nq) := by simp [s_hours, q1, t1, show hr + i1 ≤ 9999 by omega]
  rw [hA, t1] at hc
  obtain ⟨σ0, hσ0⟩ : ∃ z, z = σ := ⟨_, rfl⟩
  rw [← hσ0] at hc
  have hF : Eqo 42 17 σ0 σ := by rw [hσ0]; exact Eqo.rf
  refine R.iconst hc ic_0 dX7_hours_31 ?_
  refine R.istn2 hc dX7_hours_32 (by decide) rfl ?_
  refine rl_down (P := fun k => ∀ (σ : Wd) (B : Nat → Nat → Int32) (J : Nat → Int32), RW σ B L J → NowR (B 0) (pH false np nq a hr dr hs k).1 np nq (pH false np nq a hr dr hs k).2.1 (pH false np nq a hr dr hs k).2.2.1 → UdR (B 5) (pH false np nq a hr dr hs k).2.2.2 np nq → J 3 = nI (pH false np nq a hr dr hs k).2.2.2.length → (pH false np nq a hr dr hs k).2.2.2.length ≤ 8 → (∀ k, k = 2 ∨ 11 ≤ k → B k = A k) → (∀ k, k ≠ 3 → J k = I k) → Eqo 42 17 σ0 σ → R cx 0 0 n σ 33 [some (.ref 42), some (.int (nI i1)), some (.int (nI k))] []) i1 (fun σ B J hR hN hUb hIb hlb hB hJ hF => ?_) (fun k hk ih σ B J hR hN hUb hIb hlb hB hJ hF => ?_) 0 (Nat.zero_le _) σ A I hR hN hS.u hS.un hS.ul (fun _ _ => rfl) (fun _ _ => rfl) hF
  · have hWb := (pH_ok (cart := false) (hr := hr) (hs := hs) hW hdr i1).1
    refine R.iload_n (j := 2) (i := 2) hc rfl rfl dX7_hours_33 ?_
    refine R.iload_n (j := 1) (i := 1) hc rfl rfl dX7_hours_34 ?_
    refine R.icmpN_ge (tgt := 52) hc dX7_hours_35 (by decide) (by omega) (by omega) (fun _ => ?_) (fun z => absurd (Nat.le_refl _) z)
    refine R.aload_n (j := 0) (i := 0) hc rfl rfl dX7_hours_52 ?_
    refine R.cVr hc m_X7_servedNow lk_X7_142 dX7_hours_53 (c_X7_servedNow l (d + 3) X n hR hN hWb) (hR.1) rfl rfl rfl (by omega) ⟨Nat.le_refl _, Nat.le_refl _⟩ (Nat.le_of_ble_eq_true rfl) ?_
    exact R.iret hc rfl dX7_hours_56 ⟨rfl, rfl, by rw [if_pos hok]; exact ⟨B, L, J, hR, hS.nx hN hUb hIb hlb hB (fun k hk => hJ k (by omega))⟩, hF⟩
  · have hWb := (pH_ok (cart := false) (hr := hr) (hs := hs) hW hdr k).1
    have hdb := (pH_ok (cart := false) (hr := hr) (hs := hs) hW hdr k).2
    have hhb := pH_hr false np nq a hr dr hs k
    rw [pH] at ih
    obtain ⟨⟨b, hb, db, hsb⟩, hp⟩ : ∃ z, z = pH false np nq a hr dr hs k := ⟨_, rfl⟩
    rw [← hp] at ih hWb hdb hhb hN hUb hIb hlb
    simp only [pStep] at ih hWb hdb hhb hN hUb hIb hlb
    refine R.iload_n (j := 2) (i := 2) hc rfl rfl dX7_hours_33 ?_
    refine R.iload_n (j := 1) (i := 1) hc rfl rfl dX7_hours_34 ?_
    refine R.icmpN_ge (tgt := 52) hc dX7_hours_35 (by decide) (by omega) (by omega) (fun z => absurd z (by omega)) (fun _ => ?_)
    refine R.aload_n (j := 0) (i := 0) hc rfl rfl dX7_hours_38 ?_
    refine R.cVu hc m_X7_notes lk_X7_191 dX7_hours_39 (c_X7_notes l (d + 3) X n hR hN hWb hUb hIb hlb) (hR.1) rfl rfl rfl (by omega) ⟨Nat.le_refl _, Nat.le_refl _⟩ (Nat.le_of_ble_eq_true rfl) (fun σ hX => ?_)
    obtain ⟨A1, I1, hR, hA1, hU1, hI1, hIk1, hE⟩ := hX
    have hF := hF.tr hE
    have hN : NowR (A1 0) b np nq hb db := by rw [hA1 0 (by omega)]; exact hN
    refine R.aload_n (j := 0) (i := 0) hc rfl rfl dX7_hours_42 ?_
    refine R.cVu hc m_X7_goesBy lk_X7_106 dX7_hours_43 (c_X7_goesBy l d X n hR hN hWb (by omega)) (hR.1) rfl rfl rfl (by omega) ⟨Nat.le_refl _, Nat.le_refl _⟩ (Nat.le_of_ble_eq_true rfl) (fun σ hX => ?_)
    obtain ⟨B, hR, hN, hA, hE⟩ := hX
    have hF := hF.tr hE
    refine R.iinc2 hc dX7_hours_46 (iiN1 _) (by decide) rfl ?_
    refine R.goto (tgt := 33) hc dX7_hours_49 (by decide) ?_
    exact ih σ _ I1 hR hN (by rw [hA 5 (by omega)]; exact hU1) hI1 remem_len (fun k hk => (hA k (by omega)).trans ((hA1 k (by omega)).trans (hB k hk))) (fun k hk => (hIk1 k hk).trans (hJ k hk)) hF
set_option maxHeartbeats 4000000 in
set_option maxRecDepth 100000 in
theorem c_X7_drift (l : Launch) (d : Nat) (X : Nat × (Nat → Int32)) (n : Nat) {σ : Wd} {a : SA} {np nq hr dr : Nat} {hs : List SN} {im : IM} {tp : Nat → Nat} {tl : Nat} {ln sz : Nat → Nat} {it : Nat → Nat → Int64} (hC : RA σ a np nq hr dr hs im tp tl ln sz it) (hI : WI a np nq hr dr hs im tp tl ln sz) (w : Int32) : CN l yX7_drift cX7_drift 4 (some .int) ((d + 6)) X n [.ref 42, .int w] σ (fun r σ' => r = some (.int (s_hours true np nq a hr dr hs w)) ∧ ((if okH hr w = true then RA σ' (pH true np nq a hr dr hs (tN w)).1 np nq (pH true np nq a hr dr hs (tN w)).2.1 (pH true np nq a hr dr hs (tN w)).2.2.1 (pH true np nq a hr dr hs (tN w)).2.2.2 im tp tl ln sz it else RA σ' a np nq hr dr hs im tp tl ln sz it) ∧ Eqo 42 17 σ σ')) := by
  refine CN.of (by decide) [some (.ref 42), some (.int w), none, none] (fun _ => Nat.le_of_ble_eq_true rfl) (fun _ => rfl) (fun cx hc => ?_)
  obtain ⟨A, L, I, hR, hS⟩ := hC
  obtain ⟨hW, hh, hdr, hwh, hwi, hU, hV⟩ := hI
  have hN := hS.n
  have hW1 := hW.1
  have hW2 := hW.2.1
  have hF : Eqo 42 17 σ σ := Eqo.rf
  refine R.iload_n (j := 1) (i := 1) hc rfl rfl dX7_drift_0 ?_
  refine R.i2l hc dX7_drift_1 ?_
  refine R.lconst (j := 1) (v := lN 1) hc rfl dX7_drift_2 ?_
  refine R.ldc2 hc kn_X7_189 dX7_drift_3 ?_
  refine R.cSr hc m_X7_in lk_X7_59 dX7_drift_6 (c_X7_in l (d + 5) X n _ _ _) rfl rfl (by omega) ⟨Nat.le_refl _, Nat.le_refl _⟩ (Nat.le_of_ble_eq_true rfl) ?_
  rw [inL_R (by decide) (by decide)]
  refine R.ifB_ne (tgt := 14) hc dX7_drift_9 (by decide) (fun q1 => ?_) (fun q1 => ?_)
  rotate_left
  · refine R.iconst hc ic_m1 dX7_drift_12 ?_
    have e9 : (-1) = s_hours true np nq a hr dr hs w := by simp [s_hours, q1]
    exact R.iret hc rfl dX7_drift_13 ⟨rfl, congrArg (fun z => some (Value.int z)) e9, by rw [if_neg (by simp [okH, q1])]; exact ⟨A, L, I, hR, hS⟩, hF⟩
  obtain ⟨i1, rfl, _, g1, t1⟩ := inR_of (by decide) (by decide) q1
  refine R.aload_n (j := 0) (i := 0) hc rfl rfl dX7_drift_14 ?_
  refine R.get hc gf_X7_7_r dX7_drift_15 (hR.1) rfl ?_
  refine R.iconst hc ic_2 dX7_drift_18 ?_
  refine R.ialdV hc hR.g0 (by omega) (by decide) dX7_drift_19 (hN.2.2.1) ?_
  refine R.iload_n (j := 1) (i := 1) hc rfl rfl dX7_drift_20 ?_
  first | refine R.iaddN hc dX7_drift_21 ?_ | refine R.iadd hc dX7_drift_21 ?_
  refine R.sipush hc sp_9999 dX7_drift_22 ?_
  refine R.icmpN_le (tgt := 31) hc dX7_drift_25 (by decide) (by omega) (by omega) (fun q2 => ?_) (fun q2 => ?_)
  rotate_left
  · refine R.bipush hc bp_m3 dX7_drift_28 ?_
    have e9 : (-3) = s_hours true np nq a hr dr hs (nI i1) := by simp [s_hours, q1, t1, show ¬ hr + i1 ≤ 9999 by omega]
    exact R.iret hc rfl dX7_drift_30 ⟨rfl, congrArg (fun z => some (Value.int z)) e9, by rw [if_neg (by simp [okH, t1]; omega)]; exact ⟨A, L, I, hR, hS⟩, hF⟩
  have hok : okH hr (nI i1) = true := by simp [okH, q1, t1]; omega
  have hA : s_hours true np nq a hr dr hs (nI i1) = nI (bsN (hasC (pH true np nq a hr dr hs i1).1) nq) := by simp [s_hours, q1, t1, show hr + i1 ≤ 9999 by omega]
  rw [hA, t1] at hc
  obtain ⟨σ0, hσ0⟩ : ∃ z, z = σ := ⟨_, rfl⟩
  rw [← hσ0] at hc
  have hF : Eqo 42 17 σ0 σ := by rw [hσ0]; exact Eqo.rf
  refine R.iconst hc ic_0 dX7_drift_31 ?_
  refine R.istn2 hc dX7_drift_32 (by decide) rfl ?_
  refine rl_down (P := fun k => ∀ (σ : Wd) (B : Nat → Nat → Int32) (J : Nat → Int32), RW σ B L J → NowR (B 0) (pH true np nq a hr dr hs k).1 np nq (pH true np nq a hr dr hs k).2.1 (pH true np nq a hr dr hs k).2.2.1 → UdR (B 5) (pH true np nq a hr dr hs k).2.2.2 np nq → J 3 = nI (pH true np nq a hr dr hs k).2.2.2.length → (pH true np nq a hr dr hs k).2.2.2.length ≤ 8 → (∀ k, k = 2 ∨ 11 ≤ k → B k = A k) → (∀ k, k ≠ 3 → J k = I k) → Eqo 42 17 σ0 σ → R cx 0 0 n σ 33 [some (.ref 42), some (.int (nI i1)), some (.int (nI k)), none] []) i1 (fun σ B J hR hN hUb hIb hlb hB hJ hF => ?_) (fun k hk ih σ B J hR hN hUb hIb hlb hB hJ hF => ?_) 0 (Nat.zero_le _) σ A I hR hN hS.u hS.un hS.ul (fun _ _ => rfl) (fun _ _ => rfl) hF
  · have hWb := (pH_ok (cart := true) (hr := hr) (hs := hs) hW hdr i1).1
    refine R.iload_n (j := 2) (i := 2) hc rfl rfl dX7_drift_33 ?_
    refine R.iload_n (j := 1) (i := 1) hc rfl rfl dX7_drift_34 ?_
    refine R.icmpN_ge (tgt := 131) hc dX7_drift_35 (by decide) (by omega) (by omega) (fun _ => ?_) (fun z => absurd (Nat.le_refl _) z)
    refine R.aload_n (j := 0) (i := 0) hc rfl rfl dX7_drift_131 ?_
    refine R.cVr hc m_X7_servedNow lk_X7_142 dX7_drift_132 (c_X7_servedNow l (d + 3) X n hR hN hWb) (hR.1) rfl rfl rfl (by omega) ⟨Nat.le_refl _, Nat.le_refl _⟩ (Nat.le_of_ble_eq_true rfl) ?_
    exact R.iret hc rfl dX7_drift_135 ⟨rfl, rfl, by rw [if_pos hok]; exact ⟨B, L, J, hR, hS.nx hN hUb hIb hlb hB (fun k hk => hJ k (by omega))⟩, hF⟩
  · have hWb := (pH_ok (cart := true) (hr := hr) (hs := hs) hW hdr k).1
    have hdb := (pH_ok (cart := true) (hr := hr) (hs := hs) hW hdr k).2
    have hhb := pH_hr true np nq a hr dr hs k
    rw [pH] at ih
    obtain ⟨⟨b, hb, db, hsb⟩, hp⟩ : ∃ z, z = pH true np nq a hr dr hs k := ⟨_, rfl⟩
    rw [← hp] at ih hWb hdb hhb hN hUb hIb hlb
    simp only [pStep] at ih hWb hdb hhb hN hUb hIb hlb
    refine R.iload_n (j := 2) (i := 2) hc rfl rfl dX7_drift_33 ?_
    refine R.iload_n (j := 1) (i := 1) hc rfl rfl dX7_drift_34 ?_
    refine R.icmpN_ge (tgt := 131) hc dX7_drift_35 (by decide) (by omega) (by omega) (fun z => absurd z (by omega)) (fun _ => ?_)
    simp only [if_true] at ih
    have hdw : drw db < 2147483648 := drw_lt db
    have hWc : WF (cartS b np (drw db)) np nq := WF_cart hWb
    refine R.aload_n (j := 0) (i := 0) hc rfl rfl dX7_drift_38 ?_
    refine R.cVu hc m_X7_notes lk_X7_191 dX7_drift_39 (c_X7_notes l (d + 3) X n hR hN hWb hUb hIb hlb) (hR.1) rfl rfl rfl (by omega) ⟨Nat.le_refl _, Nat.le_refl _⟩ (Nat.le_of_ble_eq_true rfl) (fun σ hX => ?_)
    obtain ⟨A1, I1, hR, hA1, hU1, hI1, hIk1, hE⟩ := hX
    have hF := hF.tr hE
    have hN : NowR (A1 0) b np nq hb db := by rw [hA1 0 (by omega)]; exact hN
    refine R.aload_n (j := 0) (i := 0) hc rfl rfl dX7_drift_42 ?_
    refine R.get hc gf_X7_7_r dX7_drift_43 (hR.1) rfl ?_
    refine R.iconst hc ic_3 dX7_drift_46 ?_
    refine R.aload_n (j := 0) (i := 0) hc rfl rfl dX7_drift_47 ?_
    refine R.get hc gf_X7_7_r dX7_drift_48 (hR.1) rfl ?_
    refine R.iconst hc ic_3 dX7_drift_51 ?_
    refine R.ialdV hc hR.g0 (by omega) (by decide) dX7_drift_52 (hN.2.2.2.1) ?_
    refine R.i2l hc dX7_drift_53 ?_
    refine R.ldc2 hc kn_X7_197 dX7_drift_54 ?_
    refine R.lmul hc dX7_drift_57 ?_
    refine R.ldc2 hc kn_X7_199 dX7_drift_58 ?_
    refine R.ladd hc dX7_drift_61 ?_
    refine R.ldc2 hc kn_X7_201 dX7_drift_62 ?_
    refine R.land hc dX7_drift_65 ?_
    have e1 : (db * 1103515245 + 12345) &&& 2147483647 = drw db := by rw [drw_eq]; exact Nat.and_two_pow_sub_one_eq_mod _ 31
    rw [nI_l hdb, lN_mul, lN_add, lN_an, e1]
    refine R.l2i hc dX7_drift_66 ?_
    rw [lN_i]
    refine R.iastG hc dX7_drift_67 hR.g0 (by omega) (by decide) (fun σ hX hE => ?_)
    have hR := hR.w0 hX hE
    have hF := hF.tr (hE.wid (by omega))
    have hN : NowR (A2 A1 0 3 (nI (drw db)) 0) b np nq hb (drw db) := by rw [A2_s]; exact hN.wdr _
    have go : ∀ (σ : Wd) (C : Nat → Nat → Int32) (v : Option Value), RW σ C L I1 → NowR (C 0) (cartS b np (drw db)) np nq hb (drw db) → (∀ k, k ≠ 0 → C k = A1 k) → Eqo 42 17 σ0 σ → R cx 0 0 n σ 121 [some (.ref 42), some (.int (nI i1)), some (.int (nI k)), v] [] := by
      intro σ C v hR hN hCk hF
      refine R.aload_n (j := 0) (i := 0) hc rfl rfl dX7_drift_121 ?_
      refine R.cVu hc m_X7_goesBy lk_X7_106 dX7_drift_122 (c_X7_goesBy l d X n hR hN hWc (by omega)) (hR.1) rfl rfl rfl (by omega) ⟨Nat.le_refl _, Nat.le_refl _⟩ (Nat.le_of_ble_eq_true rfl) (fun σ hX => ?_)
      obtain ⟨B, hR, hN, hA, hE⟩ := hX
      have hF := hF.tr hE
      refine R.iinc2 hc dX7_drift_125 (iiN1 _) (by decide) rfl ?_
      refine R.goto (tgt := 33) hc dX7_drift_128 (by decide) ?_
      exact R.fg3 (ih σ _ I1 hR hN (by rw [hA 5 (by omega), hCk 5 (by omega)]; exact hU1) hI1 remem_len (fun k hk => (hA k (by omega)).trans ((hCk k (by omega)).trans ((hA1 k (by omega)).trans (hB k hk)))) (fun k hk => (hIk1 k hk).trans (hJ k hk)) hF)
    refine R.aload_n (j := 0) (i := 0) hc rfl rfl dX7_drift_68 ?_
    refine R.get hc gf_X7_7_r dX7_drift_69 (hR.1) rfl ?_
    refine R.iconst hc ic_0 dX7_drift_72 ?_
    refine R.ialdV hc hR.g0 (by omega) (by decide) dX7_drift_73 (hN.1) ?_
    refine R.ifN_le (tgt := 121) hc dX7_drift_74 (by decide) (by omega) (fun z => ?_) (fun z => ?_)
    · exact go σ _ _ hR (by rw [cartS, if_neg (by omega)]; exact hN) (fun k hk => A2_n hk) hF
    refine R.aload_n (j := 0) (i := 0) hc rfl rfl dX7_drift_77 ?_
    refine R.get hc gf_X7_7_r dX7_drift_78 (hR.1) rfl ?_
    refine R.iconst hc ic_3 dX7_drift_81 ?_
    refine R.ialdV hc hR.g0 (by omega) (by decide) dX7_drift_82 (hN.2.2.2.1) ?_
    refine R.ldc hc kn_X7_203 dX7_drift_83 ?_
    first | refine R.idivN hc (by omega) (by omega) (by omega) dX7_drift_85 ?_ | refine R.idiv hc (by decide) dX7_drift_85 ?_
    refine R.iconst hc ic_3 dX7_drift_86 ?_
    first | refine R.iremN hc (by omega) (by omega) (by omega) dX7_drift_87 ?_ | refine R.irem hc (by decide) dX7_drift_87 ?_
    have hr3 := Nat.mod_lt (drw db / 65536) (show 0 < 3 by omega)
    refine R.ifN_ne (tgt := 121) hc dX7_drift_88 (by decide) (by omega) (fun y => ?_) (fun y => ?_)
    · exact go σ _ _ hR (by rw [cartS, if_neg (fun w => y w.2)]; exact hN) (fun k hk => A2_n hk) hF
    rw [cartS, if_pos ⟨z, y⟩] at go
    have hm9 : drw db / 128 % np < np := Nat.mod_lt _ z
    obtain ⟨k0, k1, k2⟩ := hWb.2.2.1 _ hm9
    refine R.aload_n (j := 0) (i := 0) hc rfl rfl dX7_drift_91 ?_
    refine R.get hc gf_X7_7_r dX7_drift_92 (hR.1) rfl ?_
    refine R.iconst hc ic_3 dX7_drift_95 ?_
    refine R.ialdV hc hR.g0 (by omega) (by decide) dX7_drift_96 (hN.2.2.2.1) ?_
    refine R.sipush hc sp_128 dX7_drift_97 ?_
    first | refine R.idivN hc (by omega) (by omega) (by omega) dX7_drift_100 ?_ | refine R.idiv hc (by decide) dX7_drift_100 ?_
    refine R.aload_n (j := 0) (i := 0) hc rfl rfl dX7_drift_101 ?_
    refine R.get hc gf_X7_7_r dX7_drift_102 (hR.1) rfl ?_
    refine R.iconst hc ic_0 dX7_drift_105 ?_
    refine R.ialdV hc hR.g0 (by omega) (by decide) dX7_drift_106 (hN.1) ?_
    first | refine R.iremN hc (by omega) (by omega) (by omega) dX7_drift_107 ?_ | refine R.irem hc (by decide) dX7_drift_107 ?_
    refine R.istn3 hc dX7_drift_108 (by decide) rfl ?_
    refine R.aload_n (j := 0) (i := 0) hc rfl rfl dX7_drift_109 ?_
    refine R.iload_n (j := 3) (i := 3) hc rfl rfl dX7_drift_110 ?_
    refine R.aload_n (j := 0) (i := 0) hc rfl rfl dX7_drift_111 ?_
    refine R.iload_n (j := 3) (i := 3) hc rfl rfl dX7_drift_112 ?_
    refine R.cVr hc m_X7_deep lk_X7_78 dX7_drift_113 (n_X7_deep l (d + 4) X n hR hN hWb hm9) (hR.1) rfl rfl rfl (by omega) ⟨Nat.le_refl _, Nat.le_refl _⟩ (Nat.le_of_ble_eq_true rfl) ?_
    refine R.iconst hc ic_2 dX7_drift_116 ?_
    first | refine R.idivN hc (by omega) (by omega) (by omega) dX7_drift_117 ?_ | refine R.idiv hc (by decide) dX7_drift_117 ?_
    refine R.cVu hc m_X7_deeps lk_X7_102 dX7_drift_118 (c_X7_deeps l (d + 5) X n hR (by omega) _) (hR.1) rfl rfl rfl (by omega) ⟨Nat.le_refl _, Nat.le_refl _⟩ (Nat.le_of_ble_eq_true rfl) (fun σ hX => ?_)
    obtain ⟨hR, hE⟩ := hX
    have hF := hF.tr hE
    rw [clI_n (by omega), if_neg (by omega)] at hR
    exact go σ _ _ hR (by rw [A2_s]; exact hN.wp (by omega) (by omega)) (fun k hk => by rw [A2_n hk, A2_n hk]) hF
set_option maxHeartbeats 4000000 in
set_option maxRecDepth 100000 in
theorem c_X7_undo (l : Launch) (d : Nat) (X : Nat × (Nat → Int32)) (n : Nat) {σ : Wd} {a : SA} {np nq hr dr : Nat} {hs : List SN} {im : IM} {tp : Nat → Nat} {tl : Nat} {ln sz : Nat → Nat} {it : Nat → Nat → Int64} (hC : RA σ a np nq hr dr hs im tp tl ln sz it) (hI : WI a np nq hr dr hs im tp tl ln sz) : CN l yX7_undo cX7_undo 3 (some .int) ((d + 1)) X n [.ref 42] σ (fun r σ' => r = some (.int (s_undo hs)) ∧ ((match hs with | [] => RA σ' a np nq hr dr hs im tp tl ln sz it | s :: t => RA σ' (backA a s.2.2) np nq s.1 s.2.1 t im tp tl ln sz it) ∧ Eqo 42 17 σ σ')) := by
  refine CN.of (by decide) [some (.ref 42), none, none] (fun _ => Nat.le_of_ble_eq_true rfl) (fun _ => rfl) (fun cx hc => ?_)
  obtain ⟨A, L, I, hR, hS⟩ := hC
  obtain ⟨hW, hh, hdr, hwh, hwi, hU, hV⟩ := hI
  have hN := hS.n
  have hW1 := hW.1
  have hW2 := hW.2.1
  have hF : Eqo 42 17 σ σ := Eqo.rf
  have hU3 := hS.un
  have hl8 := hS.ul
  have hud := hS.u
  cases hs with
  | nil =>
    have hU3 : I 3 = nI 0 := hU3
    refine R.aload_n (j := 0) (i := 0) hc rfl rfl dX7_undo_0 ?_
    refine R.gtV hc gf_X7_109_r dX7_undo_1 hR.1 rfl (hU3) ?_
    refine R.ifN_ne (tgt := 10) hc dX7_undo_4 (by decide) (by omega) (fun z => absurd rfl z) (fun _ => ?_)
    refine R.bipush hc bp_m4 dX7_undo_7 ?_
    exact R.iret hc rfl dX7_undo_9 ⟨rfl, rfl, ⟨A, L, I, hR, hS⟩, hF⟩
  | cons s t =>
    have hU3 : I 3 = nI (t.length + 1) := hU3
    have hl8 : t.length + 1 ≤ 8 := hl8
    obtain ⟨u1, u2, u3, u4, u5⟩ := hud 0 s rfl
    rw [show (s :: t).length - 1 - 0 = t.length by simp] at u1 u2 u3 u4 u5
    have hut : UdR (A 5) t np nq := by
      intro i s' hi
      have := hud (i + 1) s' (by simpa using hi)
      rw [show (s :: t).length - 1 - (i + 1) = t.length - 1 - i by simp only [List.length_cons]; omega] at this
      exact this
    have hc : cx = (l, yX7_undo, cX7_undo, 3, some .int, d + 1, 0, 0, n, X, fun v n' σ' => n' = n ∧ (v = some (.int (nI t.length)) ∧ (RA σ' (backA a s.2.2) np nq s.1 s.2.1 t im tp tl ln sz it ∧ Eqo 42 17 σ σ'))) := hc
    obtain ⟨m, hm⟩ : ∃ z, z = t.length := ⟨_, rfl⟩
    rw [← hm] at hU3 hl8 u1 u2 u3 u4 u5 hc
    obtain ⟨σ0, hσ0⟩ : ∃ z, z = σ := ⟨_, rfl⟩
    rw [← hσ0] at hc
    have hF : Eqo 42 17 σ0 σ := by rw [hσ0]; exact Eqo.rf
    refine R.aload_n (j := 0) (i := 0) hc rfl rfl dX7_undo_0 ?_
    refine R.gtV hc gf_X7_109_r dX7_undo_1 hR.1 rfl (hU3) ?_
    refine R.ifN_ne (tgt := 10) hc dX7_undo_4 (by decide) (by omega) (fun _ => ?_) (fun z => absurd z (by omega))
    refine R.aload_n (j := 0) (i := 0) hc rfl rfl dX7_undo_10 ?_
    refine R.dup hc rfl dX7_undo_11 ?_
    refine R.gtV hc gf_X7_109_r dX7_undo_12 hR.1 rfl (hU3) ?_
    refine R.iconst hc ic_1 dX7_undo_15 ?_
    first | refine R.isubN hc (by omega) dX7_undo_16 ?_ | refine R.isub hc dX7_undo_16 ?_
    refine R.putG hc gf_X7_109 dX7_undo_17 hR.1 (Nat.le_of_ble_eq_true rfl) (fun _ => rfl) (fun _ => rfl) (fun σ hX hE => ?_)
    have hR := hR.p3 hX hE
    have hF := hF.tr (hE.wid (by omega))
    have hU3 : un I 3 (nI (m + 1 - 1)) 3 = nI (m + 1 - 1) := rfl
    rw [show m + 1 - 1 = m by omega] at hR hU3
    refine R.bipush hc bp_21 dX7_undo_20 ?_
    refine R.aload_n (j := 0) (i := 0) hc rfl rfl dX7_undo_22 ?_
    refine R.gtV hc gf_X7_109_r dX7_undo_23 hR.1 rfl (hU3) ?_
    first | refine R.imulN hc dX7_undo_26 ?_ | refine R.imul hc dX7_undo_26 ?_
    refine R.istn1 hc dX7_undo_27 (by decide) rfl ?_
    refine R.aload_n (j := 0) (i := 0) hc rfl rfl dX7_undo_28 ?_
    refine R.get hc gf_X7_7_r dX7_undo_29 (hR.1) rfl ?_
    refine R.iconst hc ic_2 dX7_undo_32 ?_
    refine R.aload_n (j := 0) (i := 0) hc rfl rfl dX7_undo_33 ?_
    refine R.get hc gf_X7_25_r dX7_undo_34 (hR.1) rfl ?_
    refine R.iload_n (j := 1) (i := 1) hc rfl rfl dX7_undo_37 ?_
    refine R.ialdV hc hR.g5 (by omega) (by decide) dX7_undo_38 u1 ?_
    refine R.iastG hc dX7_undo_39 hR.g0 (by omega) (by decide) (fun σ hX hE => ?_)
    have hR := hR.w0 hX hE
    have hF := hF.tr (hE.wid (by omega))
    refine R.aload_n (j := 0) (i := 0) hc rfl rfl dX7_undo_40 ?_
    refine R.get hc gf_X7_7_r dX7_undo_41 (hR.1) rfl ?_
    refine R.iconst hc ic_3 dX7_undo_44 ?_
    refine R.aload_n (j := 0) (i := 0) hc rfl rfl dX7_undo_45 ?_
    refine R.get hc gf_X7_25_r dX7_undo_46 (hR.1) rfl ?_
    refine R.iload_n (j := 1) (i := 1) hc rfl rfl dX7_undo_49 ?_
    refine R.iconst hc ic_1 dX7_undo_50 ?_
    first | refine R.iaddN hc dX7_undo_51 ?_ | refine R.iadd hc dX7_undo_51 ?_
    refine R.ialdV hc hR.g5 (by omega) (by decide) dX7_undo_52 u2 ?_
    refine R.iastG hc dX7_undo_53 hR.g0 (by omega) (by decide) (fun σ hX hE => ?_)
    have hR := hR.w0 hX hE
    have hF := hF.tr (hE.wid (by omega))
    refine R.iconst hc ic_0 dX7_undo_54 ?_
    refine R.istn2 hc dX7_undo_55 (by decide) rfl ?_
    obtain ⟨J, hJ⟩ : ∃ z, z = un I 3 (nI m) := ⟨_, rfl⟩
    rw [← hJ] at hR hU3
    have hN : NowR (A2 (A2 A 0 2 (nI s.1)) 0 3 (nI s.2.1) 0) (bkP a s.2.2 0 0) np nq s.1 s.2.1 := by
      rw [A2_s, A2_s]
      exact ((hN.whr s.1).wdr s.2.1).ext (fun k hk p hp => bkP_n (by omega)) (fun k hk hk7 q hq => bkP_n (by omega))
    refine rl_down (P := fun p => ∀ (σ : Wd) (B : Nat → Nat → Int32), RW σ B L J → NowR (B 0) (bkP a s.2.2 p 0) np nq s.1 s.2.1 → (∀ k, k ≠ 0 → B k = A k) → Eqo 42 17 σ0 σ → R cx 0 0 n σ 56 [some (.ref 42), some (.int (nI (21 * m))), some (.int (nI p))] []) 7 (fun σ B hR hN hB hF => ?_) (fun p hp ih σ B hR hN hB hF => ?_) 0 (Nat.zero_le _) σ _ hR hN (fun k hk => by rw [A2_n hk, A2_n hk]) hF
    rotate_left
    · refine R.iload_n (j := 2) (i := 2) hc rfl rfl dX7_undo_56 ?_
      refine R.bipush hc bp_7 dX7_undo_57 ?_
      refine R.icmpN_ge (tgt := 90) hc dX7_undo_59 (by decide) (by omega) (by omega) (fun z => absurd z (by omega)) (fun _ => ?_)
      refine R.aload_n (j := 0) (i := 0) hc rfl rfl dX7_undo_62 ?_
      refine R.get hc gf_X7_7_r dX7_undo_63 (hR.1) rfl ?_
      refine R.iconst hc ic_4 dX7_undo_66 ?_
      refine R.iconst hc ic_3 dX7_undo_67 ?_
      refine R.iload_n (j := 2) (i := 2) hc rfl rfl dX7_undo_68 ?_
      first | refine R.imulN hc dX7_undo_69 ?_ | refine R.imul hc dX7_undo_69 ?_
      first | refine R.iaddN hc dX7_undo_70 ?_ | refine R.iadd hc dX7_undo_70 ?_
      refine R.iconst hc ic_2 dX7_undo_71 ?_
      first | refine R.iaddN hc dX7_undo_72 ?_ | refine R.iadd hc dX7_undo_72 ?_
      refine R.aload_n (j := 0) (i := 0) hc rfl rfl dX7_undo_73 ?_
      refine R.get hc gf_X7_25_r dX7_undo_74 (hR.1) rfl ?_
      refine R.iload_n (j := 1) (i := 1) hc rfl rfl dX7_undo_77 ?_
      refine R.iconst hc ic_2 dX7_undo_78 ?_
      first | refine R.iaddN hc dX7_undo_79 ?_ | refine R.iadd hc dX7_undo_79 ?_
      refine R.iload_n (j := 2) (i := 2) hc rfl rfl dX7_undo_80 ?_
      first | refine R.iaddN hc dX7_undo_81 ?_ | refine R.iadd hc dX7_undo_81 ?_
      refine R.iald hc hR.g5 (by omega) (by decide) dX7_undo_82 ?_
      refine R.iastG hc dX7_undo_83 hR.g0 (by omega) (by decide) (fun σ hX hE => ?_)
      have hR := hR.w0 hX hE
      have hF := hF.tr (hE.wid (by omega))
      refine R.iinc2 hc dX7_undo_84 (iiN1 _) (by decide) rfl ?_
      refine R.goto (tgt := 56) hc dX7_undo_87 (by decide) ?_
      exact ih σ _ hR (by rw [A2_s]; exact bk_p hN hp (fun h => by rw [hB 5 (by omega)]; exact u3 p h)) (fun k hk => by rw [A2_n hk]; exact hB k hk) hF
    refine R.iload_n (j := 2) (i := 2) hc rfl rfl dX7_undo_56 ?_
    refine R.bipush hc bp_7 dX7_undo_57 ?_
    refine R.icmpN_ge (tgt := 90) hc dX7_undo_59 (by decide) (by omega) (by omega) (fun _ => ?_) (fun z => absurd (Nat.le_refl _) z)
    refine R.iconst hc ic_0 dX7_undo_90 ?_
    refine R.istn2 hc dX7_undo_91 (by decide) rfl ?_
    refine rl_down (P := fun q => ∀ (σ : Wd) (B : Nat → Nat → Int32), RW σ B L J → NowR (B 0) (bkP a s.2.2 7 q) np nq s.1 s.2.1 → (∀ k, k ≠ 0 → B k = A k) → Eqo 42 17 σ0 σ → R cx 0 0 n σ 92 [some (.ref 42), some (.int (nI (21 * m))), some (.int (nI q))] []) 6 (fun σ B hR hN hB hF => ?_) (fun q hq ih σ B hR hN hB hF => ?_) 0 (Nat.zero_le _) σ _ hR hN hB hF
    · refine R.iload_n (j := 2) (i := 2) hc rfl rfl dX7_undo_92 ?_
      refine R.bipush hc bp_6 dX7_undo_93 ?_
      refine R.icmpN_ge (tgt := 138) hc dX7_undo_95 (by decide) (by omega) (by omega) (fun _ => ?_) (fun z => absurd (Nat.le_refl _) z)
      refine R.aload_n (j := 0) (i := 0) hc rfl rfl dX7_undo_138 ?_
      refine R.gtV hc gf_X7_109_r dX7_undo_139 hR.1 rfl (hU3) ?_
      refine R.iret hc rfl dX7_undo_142 ⟨rfl, rfl, ⟨B, L, J, hR, hS.nx ?_ (by rw [hB 5 (by omega)]; exact hut) (by rw [hU3, hm]) (by omega) (fun k hk => hB k (by omega)) (fun k hk => by rw [hJ]; exact if_neg (by omega))⟩, hF⟩
      refine hN.ext (fun k hk p hp => ?_) (fun k hk hk7 q hq => ?_)
      · unfold backA bkP
        by_cases e : k = 2
        · simp [e, show p < 7 by omega]
        · simp [e, show ¬ k = 4 by omega, show ¬ k = 6 by omega]
      · unfold backA bkP
        have : q < 6 := by omega
        simp [this, show ¬ k = 2 by omega]
    · refine R.iload_n (j := 2) (i := 2) hc rfl rfl dX7_undo_92 ?_
      refine R.bipush hc bp_6 dX7_undo_93 ?_
      refine R.icmpN_ge (tgt := 138) hc dX7_undo_95 (by decide) (by omega) (by omega) (fun z => absurd z (by omega)) (fun _ => ?_)
      refine R.aload_n (j := 0) (i := 0) hc rfl rfl dX7_undo_98 ?_
      refine R.iload_n (j := 2) (i := 2) hc rfl rfl dX7_undo_99 ?_
      refine R.aload_n (j := 0) (i := 0) hc rfl rfl dX7_undo_100 ?_
      refine R.get hc gf_X7_25_r dX7_undo_101 (hR.1) rfl ?_
      refine R.iload_n (j := 1) (i := 1) hc rfl rfl dX7_undo_104 ?_
      refine R.bipush hc bp_9 dX7_undo_105 ?_
      first | refine R.iaddN hc dX7_undo_107 ?_ | refine R.iadd hc dX7_undo_107 ?_
      refine R.iload_n (j := 2) (i := 2) hc rfl rfl dX7_undo_108 ?_
      first | refine R.iaddN hc dX7_undo_109 ?_ | refine R.iadd hc dX7_undo_109 ?_
      refine R.iald hc hR.g5 (by omega) (by decide) dX7_undo_110 ?_
      refine R.iconst hc ic_1 dX7_undo_111 ?_
      refine R.cVu hc m_X7_tells lk_X7_91 dX7_undo_112 (c_X7_tells l d X n hR (by omega) (by omega) _) (hR.1) rfl rfl rfl (by omega) ⟨Nat.le_refl _, Nat.le_refl _⟩ (Nat.le_of_ble_eq_true rfl) (fun σ hX => ?_)
      obtain ⟨hR, hE⟩ := hX
      have hF := hF.tr hE
      refine R.aload_n (j := 0) (i := 0) hc rfl rfl dX7_undo_115 ?_
      refine R.iload_n (j := 2) (i := 2) hc rfl rfl dX7_undo_116 ?_
      refine R.aload_n (j := 0) (i := 0) hc rfl rfl dX7_undo_117 ?_
      refine R.get hc gf_X7_25_r dX7_undo_118 (hR.1) rfl ?_
      refine R.iload_n (j := 1) (i := 1) hc rfl rfl dX7_undo_121 ?_
      refine R.bipush hc bp_15 dX7_undo_122 ?_
      first | refine R.iaddN hc dX7_undo_124 ?_ | refine R.iadd hc dX7_undo_124 ?_
      refine R.iload_n (j := 2) (i := 2) hc rfl rfl dX7_undo_125 ?_
      first | refine R.iaddN hc dX7_undo_126 ?_ | refine R.iadd hc dX7_undo_126 ?_
      refine R.iald hc hR.g5 (by omega) (by decide) dX7_undo_127 ?_
      refine R.iconst hc ic_3 dX7_undo_128 ?_
      refine R.cVu hc m_X7_tells lk_X7_91 dX7_undo_129 (c_X7_tells l d X n hR (by omega) (by omega) _) (hR.1) rfl rfl rfl (by omega) ⟨Nat.le_refl _, Nat.le_refl _⟩ (Nat.le_of_ble_eq_true rfl) (fun σ hX => ?_)
      obtain ⟨hR, hE⟩ := hX
      have hF := hF.tr hE
      refine R.iinc2 hc dX7_undo_132 (iiN1 _) (by decide) rfl ?_
      refine R.goto (tgt := 92) hc dX7_undo_135 (by decide) ?_
      refine ih σ _ hR ?_ (fun k hk => by rw [A2_n hk, A2_n hk]; exact hB k hk) hF
      rw [A2_s, A2_s]
      exact bk_q hN hW1 (fun h => by rw [hB 5 (by omega)]; exact u4 q h) (fun h => by rw [A2_n (by omega), hB 5 (by omega)]; exact u5 q h)
set_option maxHeartbeats 4000000 in
set_option maxRecDepth 100000 in
theorem c_X7_image (l : Launch) (d : Nat) (X : Nat × (Nat → Int32)) (n : Nat) {σ : Wd} {a : SA} {np nq hr dr : Nat} {hs : List SN} {im : IM} {tp : Nat → Nat} {tl : Nat} {ln sz : Nat → Nat} {it : Nat → Nat → Int64} (hC : RA σ a np nq hr dr hs im tp tl ln sz it) (hI : WI a np nq hr dr hs im tp tl ln sz) : CN l yX7_image cX7_image 2 (some .int) (d) X n [.ref 42] σ (fun r σ' => r = some (.int (nI 1)) ∧ (RA σ' a np nq hr dr hs (some (a, np, nq, hr, dr, hs)) tp tl ln sz it ∧ Eqo 42 17 σ σ')) := by
  refine CN.of (by decide) [some (.ref 42), none] (fun _ => Nat.le_of_ble_eq_true rfl) (fun _ => rfl) (fun cx hc => ?_)
  obtain ⟨A, L, I, hR, hS⟩ := hC
  obtain ⟨hW, hh, hdr, hwh, hwi, hU, hV⟩ := hI
  have hN := hS.n
  have hW1 := hW.1
  have hW2 := hW.2.1
  have hF : Eqo 42 17 σ σ := Eqo.rf
  have hU3 := hS.un
  have hl8 := hS.ul
  obtain ⟨σ0, hσ0⟩ : ∃ z, z = σ := ⟨_, rfl⟩
  rw [← hσ0] at hc
  have hF : Eqo 42 17 σ0 σ := by rw [hσ0]; exact Eqo.rf
  refine R.iconst hc ic_0 dX7_image_0 ?_
  refine R.istn1 hc dX7_image_1 (by decide) rfl ?_
  refine rl_down (P := fun p => ∀ (σ : Wd) (B : Nat → Nat → Int32), RW σ B L I → (∀ j, j < p → B 11 j = A 0 j) → (∀ k, k ≠ 11 → B k = A k) → Eqo 42 17 σ0 σ → R cx 0 0 n σ 2 [some (.ref 42), some (.int (nI p))] []) 49 (fun σ B hR hB hFr hF => ?_) (fun p hp ih σ B hR hB hFr hF => ?_) 0 (Nat.zero_le _) σ A hR (fun j hj => absurd hj (by omega)) (fun k _ => rfl) hF
  rotate_left
  · refine R.iload_n (j := 1) (i := 1) hc rfl rfl dX7_image_2 ?_
    refine R.bipush hc bp_49 dX7_image_3 ?_
    refine R.icmpN_ge (tgt := 26) hc dX7_image_5 (by decide) (by omega) (by omega) (fun z => absurd z (by omega)) (fun _ => ?_)
    refine R.aload_n (j := 0) (i := 0) hc rfl rfl dX7_image_8 ?_
    refine R.get hc gf_X7_43_r dX7_image_9 (hR.1) rfl ?_
    refine R.iload_n (j := 1) (i := 1) hc rfl rfl dX7_image_12 ?_
    refine R.aload_n (j := 0) (i := 0) hc rfl rfl dX7_image_13 ?_
    refine R.get hc gf_X7_7_r dX7_image_14 (hR.1) rfl ?_
    refine R.iload_n (j := 1) (i := 1) hc rfl rfl dX7_image_17 ?_
    refine R.iald hc hR.g0 (by omega) (by decide) dX7_image_18 ?_
    refine R.iastG hc dX7_image_19 hR.g11 (by omega) (by decide) (fun σ hX hE => ?_)
    have hR := hR.w11 hX hE
    have hF := hF.tr (hE.wid (by omega))
    refine R.iinc1 hc dX7_image_20 (iiN1 _) (by decide) rfl ?_
    refine R.goto (tgt := 2) hc dX7_image_23 (by decide) ?_
    exact ih σ _ hR (fun j hj => by
      rw [A2_s]
      by_cases e : j = p
      · rw [e, pk_us, hFr 0 (by omega)]
      · rw [pk_un e]; exact hB j (by omega)) (fun k hk => by rw [A2_n hk]; exact hFr k hk) hF
  refine R.iload_n (j := 1) (i := 1) hc rfl rfl dX7_image_2 ?_
  refine R.bipush hc bp_49 dX7_image_3 ?_
  refine R.icmpN_ge (tgt := 26) hc dX7_image_5 (by decide) (by omega) (by omega) (fun _ => ?_) (fun z => absurd (Nat.le_refl _) z)
  refine R.iconst hc ic_0 dX7_image_26 ?_
  refine R.istn1 hc dX7_image_27 (by decide) rfl ?_
  refine rl_down (P := fun p => ∀ (σ : Wd) (B : Nat → Nat → Int32), RW σ B L I → (∀ j, j < 49 → B 11 j = A 0 j) → (∀ j, j < p → B 11 (49 + j) = A 5 j) → (∀ k, k ≠ 11 → B k = A k) → Eqo 42 17 σ0 σ → R cx 0 0 n σ 28 [some (.ref 42), some (.int (nI p))] []) 168 (fun σ B hR hB hG hFr hF => ?_) (fun p hp ih σ B hR hB hG hFr hF => ?_) 0 (Nat.zero_le _) σ B hR hB (fun j hj => absurd hj (by omega)) hFr hF
  rotate_left
  · refine R.iload_n (j := 1) (i := 1) hc rfl rfl dX7_image_28 ?_
    refine R.sipush hc sp_168 dX7_image_29 ?_
    refine R.icmpN_ge (tgt := 56) hc dX7_image_32 (by decide) (by omega) (by omega) (fun z => absurd z (by omega)) (fun _ => ?_)
    refine R.aload_n (j := 0) (i := 0) hc rfl rfl dX7_image_35 ?_
    refine R.get hc gf_X7_43_r dX7_image_36 (hR.1) rfl ?_
    refine R.bipush hc bp_49 dX7_image_39 ?_
    refine R.iload_n (j := 1) (i := 1) hc rfl rfl dX7_image_41 ?_
    first | refine R.iaddN hc dX7_image_42 ?_ | refine R.iadd hc dX7_image_42 ?_
    refine R.aload_n (j := 0) (i := 0) hc rfl rfl dX7_image_43 ?_
    refine R.get hc gf_X7_25_r dX7_image_44 (hR.1) rfl ?_
    refine R.iload_n (j := 1) (i := 1) hc rfl rfl dX7_image_47 ?_
    refine R.iald hc hR.g5 (by omega) (by decide) dX7_image_48 ?_
    refine R.iastG hc dX7_image_49 hR.g11 (by omega) (by decide) (fun σ hX hE => ?_)
    have hR := hR.w11 hX hE
    have hF := hF.tr (hE.wid (by omega))
    refine R.iinc1 hc dX7_image_50 (iiN1 _) (by decide) rfl ?_
    refine R.goto (tgt := 28) hc dX7_image_53 (by decide) ?_
    exact ih σ _ hR (fun j hj => by rw [A2_s, pk_un (by omega)]; exact hB j hj) (fun j hj => by
      rw [A2_s]
      by_cases e : j = p
      · rw [e, pk_us, hFr 5 (by omega)]
      · rw [pk_un (by omega)]; exact hG j (by omega)) (fun k hk => by rw [A2_n hk]; exact hFr k hk) hF
  refine R.iload_n (j := 1) (i := 1) hc rfl rfl dX7_image_28 ?_
  refine R.sipush hc sp_168 dX7_image_29 ?_
  refine R.icmpN_ge (tgt := 56) hc dX7_image_32 (by decide) (by omega) (by omega) (fun _ => ?_) (fun z => absurd (Nat.le_refl _) z)
  refine R.aload_n (j := 0) (i := 0) hc rfl rfl dX7_image_56 ?_
  refine R.aload_n (j := 0) (i := 0) hc rfl rfl dX7_image_57 ?_
  refine R.gtV hc gf_X7_109_r dX7_image_58 hR.1 rfl (hU3) ?_
  refine R.putG hc gf_X7_224 dX7_image_61 hR.1 (Nat.le_of_ble_eq_true rfl) (fun _ => rfl) (fun _ => rfl) (fun σ hX hE => ?_)
  have hR := hR.p4 hX hE
  have hF := hF.tr (hE.wid (by omega))
  refine R.aload_n (j := 0) (i := 0) hc rfl rfl dX7_image_64 ?_
  refine R.iconst hc ic_1 dX7_image_65 ?_
  refine R.putG hc gf_X7_227 dX7_image_66 hR.1 (Nat.le_of_ble_eq_true rfl) (fun _ => rfl) (fun _ => rfl) (fun σ hX hE => ?_)
  have hR := hR.p5 hX hE
  have hF := hF.tr (hE.wid (by omega))
  refine R.iconst hc ic_1 dX7_image_69 ?_
  refine R.iret hc rfl dX7_image_70 ⟨rfl, rfl, ⟨B, L, _, hR, ?_, ?_, hU3, hl8, ?_, hS.tn, ⟨rfl, fun q hq => ?_⟩, ?_, ?_, hS.i⟩, hF⟩
  · rw [hFr 0 (by omega)]; exact hN
  · rw [hFr 5 (by omega)]; exact hS.u
  · rw [hFr 2 (by omega)]; exact hS.t
  · obtain rfl := Option.some.inj hq
    exact ⟨hN.ag hW1 hW2 hB, hS.u.ag hl8 hW1 hW2 (fun j hj => hG j (by omega)), rfl, hl8⟩
  · rw [hFr 12 (by omega)]; exact hS.l
  · rw [hFr 13 (by omega)]; exact hS.s
set_option maxHeartbeats 4000000 in
set_option maxRecDepth 100000 in
theorem c_X7_restore (l : Launch) (d : Nat) (X : Nat × (Nat → Int32)) (n : Nat) {σ : Wd} {a : SA} {np nq hr dr : Nat} {hs : List SN} {im : IM} {tp : Nat → Nat} {tl : Nat} {ln sz : Nat → Nat} {it : Nat → Nat → Int64} (hC : RA σ a np nq hr dr hs im tp tl ln sz it) (hI : WI a np nq hr dr hs im tp tl ln sz) : CN l yX7_restore cX7_restore 2 (some .int) (d) X n [.ref 42] σ (fun r σ' => r = some (.int (s_restore im)) ∧ ((match im with | none => RA σ' a np nq hr dr hs im tp tl ln sz it | some q => RA σ' q.1 q.2.1 q.2.2.1 q.2.2.2.1 q.2.2.2.2.1 q.2.2.2.2.2 im tp tl ln sz it) ∧ Eqo 42 17 σ σ')) := by
  refine CN.of (by decide) [some (.ref 42), none] (fun _ => Nat.le_of_ble_eq_true rfl) (fun _ => rfl) (fun cx hc => ?_)
  obtain ⟨A, L, I, hR, hS⟩ := hC
  obtain ⟨hW, hh, hdr, hwh, hwi, hU, hV⟩ := hI
  have hN := hS.n
  have hW1 := hW.1
  have hW2 := hW.2.1
  have hF : Eqo 42 17 σ σ := Eqo.rf
  obtain ⟨hK5, hKs⟩ := hS.k
  cases im with
  | none =>
    have hK5 : I 5 = b2 false := hK5
    refine R.aload_n (j := 0) (i := 0) hc rfl rfl dX7_restore_0 ?_
    refine R.gtV hc gf_X7_227_r dX7_restore_1 hR.1 rfl (hK5) ?_
    refine R.ifB_ne (tgt := 10) hc dX7_restore_4 (by decide) (fun z => absurd z (by decide)) (fun _ => ?_)
    refine R.bipush hc bp_m4 dX7_restore_7 ?_
    exact R.iret hc rfl dX7_restore_9 ⟨rfl, rfl, ⟨A, L, I, hR, hS⟩, hF⟩
  | some q =>
    have hK5 : I 5 = b2 true := hK5
    obtain ⟨b, bp, bq, bh, bd, bs⟩ := q
    obtain ⟨k1, k2, hK4, k4⟩ := hKs _ rfl
    obtain ⟨w1, w2, w3, w4⟩ := hwi _ rfl
    simp only at k1 k2 hK4 k4 w1
    have hc : cx = (l, yX7_restore, cX7_restore, 2, some .int, d, 0, 0, n, X, fun v n' σ' => n' = n ∧ (v = some (.int (nI 1)) ∧ (RA σ' b bp bq bh bd bs (some (b, bp, bq, bh, bd, bs)) tp tl ln sz it ∧ Eqo 42 17 σ σ'))) := hc
    obtain ⟨σ0, hσ0⟩ : ∃ z, z = σ := ⟨_, rfl⟩
    rw [← hσ0] at hc
    have hF : Eqo 42 17 σ0 σ := by rw [hσ0]; exact Eqo.rf
    refine R.aload_n (j := 0) (i := 0) hc rfl rfl dX7_restore_0 ?_
    refine R.gtV hc gf_X7_227_r dX7_restore_1 hR.1 rfl (hK5) ?_
    refine R.ifB_ne (tgt := 10) hc dX7_restore_4 (by decide) (fun _ => ?_) (fun z => absurd (show true = false from z) (by decide))
    refine R.iconst hc ic_0 dX7_restore_10 ?_
    refine R.istn1 hc dX7_restore_11 (by decide) rfl ?_
    refine rl_down (P := fun p => ∀ (σ : Wd) (B : Nat → Nat → Int32), RW σ B L I → (∀ j, j < p → B 0 j = A 11 j) → (∀ k, k ≠ 0 → B k = A k) → Eqo 42 17 σ0 σ → R cx 0 0 n σ 12 [some (.ref 42), some (.int (nI p))] []) 49 (fun σ B hR hB hFr hF => ?_) (fun p hp ih σ B hR hB hFr hF => ?_) 0 (Nat.zero_le _) σ A hR (fun j hj => absurd hj (by omega)) (fun k _ => rfl) hF
    rotate_left
    · refine R.iload_n (j := 1) (i := 1) hc rfl rfl dX7_restore_12 ?_
      refine R.bipush hc bp_49 dX7_restore_13 ?_
      refine R.icmpN_ge (tgt := 36) hc dX7_restore_15 (by decide) (by omega) (by omega) (fun z => absurd z (by omega)) (fun _ => ?_)
      refine R.aload_n (j := 0) (i := 0) hc rfl rfl dX7_restore_18 ?_
      refine R.get hc gf_X7_7_r dX7_restore_19 (hR.1) rfl ?_
      refine R.iload_n (j := 1) (i := 1) hc rfl rfl dX7_restore_22 ?_
      refine R.aload_n (j := 0) (i := 0) hc rfl rfl dX7_restore_23 ?_
      refine R.get hc gf_X7_43_r dX7_restore_24 (hR.1) rfl ?_
      refine R.iload_n (j := 1) (i := 1) hc rfl rfl dX7_restore_27 ?_
      refine R.iald hc hR.g11 (by omega) (by decide) dX7_restore_28 ?_
      refine R.iastG hc dX7_restore_29 hR.g0 (by omega) (by decide) (fun σ hX hE => ?_)
      have hR := hR.w0 hX hE
      have hF := hF.tr (hE.wid (by omega))
      refine R.iinc1 hc dX7_restore_30 (iiN1 _) (by decide) rfl ?_
      refine R.goto (tgt := 12) hc dX7_restore_33 (by decide) ?_
      exact ih σ _ hR (fun j hj => by
        rw [A2_s]
        by_cases e : j = p
        · rw [e, pk_us, hFr 11 (by omega)]
        · rw [pk_un e]; exact hB j (by omega)) (fun k hk => by rw [A2_n hk]; exact hFr k hk) hF
    refine R.iload_n (j := 1) (i := 1) hc rfl rfl dX7_restore_12 ?_
    refine R.bipush hc bp_49 dX7_restore_13 ?_
    refine R.icmpN_ge (tgt := 36) hc dX7_restore_15 (by decide) (by omega) (by omega) (fun _ => ?_) (fun z => absurd (Nat.le_refl _) z)
    refine R.iconst hc ic_0 dX7_restore_36 ?_
    refine R.istn1 hc dX7_restore_37 (by decide) rfl ?_
    refine rl_down (P := fun p => ∀ (σ : Wd) (C : Nat → Nat → Int32), RW σ C L I → (∀ j, j < p → C 5 j = A 11 (49 + j)) → (∀ k, k ≠ 5 → C k = B k) → Eqo 42 17 σ0 σ → R cx 0 0 n σ 38 [some (.ref 42), some (.int (nI p))] []) 168 (fun σ C hR hG hCr hF => ?_) (fun p hp ih σ C hR hG hCr hF => ?_) 0 (Nat.zero_le _) σ B hR (fun j hj => absurd hj (by omega)) (fun k _ => rfl) hF
    rotate_left
    · refine R.iload_n (j := 1) (i := 1) hc rfl rfl dX7_restore_38 ?_
      refine R.sipush hc sp_168 dX7_restore_39 ?_
      refine R.icmpN_ge (tgt := 66) hc dX7_restore_42 (by decide) (by omega) (by omega) (fun z => absurd z (by omega)) (fun _ => ?_)
      refine R.aload_n (j := 0) (i := 0) hc rfl rfl dX7_restore_45 ?_
      refine R.get hc gf_X7_25_r dX7_restore_46 (hR.1) rfl ?_
      refine R.iload_n (j := 1) (i := 1) hc rfl rfl dX7_restore_49 ?_
      refine R.aload_n (j := 0) (i := 0) hc rfl rfl dX7_restore_50 ?_
      refine R.get hc gf_X7_43_r dX7_restore_51 (hR.1) rfl ?_
      refine R.bipush hc bp_49 dX7_restore_54 ?_
      refine R.iload_n (j := 1) (i := 1) hc rfl rfl dX7_restore_56 ?_
      first | refine R.iaddN hc dX7_restore_57 ?_ | refine R.iadd hc dX7_restore_57 ?_
      refine R.iald hc hR.g11 (by omega) (by decide) dX7_restore_58 ?_
      refine R.iastG hc dX7_restore_59 hR.g5 (by omega) (by decide) (fun σ hX hE => ?_)
      have hR := hR.w5 hX hE
      have hF := hF.tr (hE.wid (by omega))
      refine R.iinc1 hc dX7_restore_60 (iiN1 _) (by decide) rfl ?_
      refine R.goto (tgt := 38) hc dX7_restore_63 (by decide) ?_
      exact ih σ _ hR (fun j hj => by
        rw [A2_s]
        by_cases e : j = p
        · rw [e, pk_us, hCr 11 (by omega), hFr 11 (by omega)]
        · rw [pk_un e]; exact hG j (by omega)) (fun k hk => by rw [A2_n hk]; exact hCr k hk) hF
    refine R.iload_n (j := 1) (i := 1) hc rfl rfl dX7_restore_38 ?_
    refine R.sipush hc sp_168 dX7_restore_39 ?_
    refine R.icmpN_ge (tgt := 66) hc dX7_restore_42 (by decide) (by omega) (by omega) (fun _ => ?_) (fun z => absurd (Nat.le_refl _) z)
    refine R.aload_n (j := 0) (i := 0) hc rfl rfl dX7_restore_66 ?_
    refine R.aload_n (j := 0) (i := 0) hc rfl rfl dX7_restore_67 ?_
    refine R.gtV hc gf_X7_224_r dX7_restore_68 hR.1 rfl (hK4) ?_
    refine R.putG hc gf_X7_109 dX7_restore_71 hR.1 (Nat.le_of_ble_eq_true rfl) (fun _ => rfl) (fun _ => rfl) (fun σ hX hE => ?_)
    have hR := hR.p3 hX hE
    have hF := hF.tr (hE.wid (by omega))
    refine R.iconst hc ic_1 dX7_restore_74 ?_
    refine R.iret hc rfl dX7_restore_75 ⟨rfl, rfl, ⟨C, L, _, hR, hS.nx ?_ ?_ rfl k4 (fun k hk => (hCr k (by omega)).trans (hFr k (by omega))) (fun k hk => if_neg (by omega))⟩, hF⟩
    · rw [hCr 0 (by omega)]; exact k1.ag w1.1 w1.2.1 hB
    · exact k2.ag k4 w1.1 w1.2.1 (fun j hj => hG j (by omega))
