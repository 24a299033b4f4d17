theorem dft_fit {fit : Nat → Bool} {dep : Nat → Nat} : ∀ k p, dft fit dep k = p + 1 → p < k ∧ fit p = true := by
  intro k
  induction k with
  | zero => intro p h; simp [dft] at h
  | succ k ih =>
    intro p h
    rw [dft] at h
    split at h
    · rename_i hc
      have : p = k := by omega
      subst this
      simp only [Bool.and_eq_true] at hc
      exact ⟨by omega, hc.1⟩
    · have := ih p h
      exact ⟨by omega, this.2⟩
theorem fitB_free {a : SA} {nq p q dep : Nat} (h : fitB a (clS a nq) p q dep = true) : ∀ i, i < nq → a 6 i ≠ p + 1 := by
  intro i hi e
  have := (clS_bit a p nq).mpr ⟨i, hi, e⟩
  simp [fitB, this] at h
theorem WF_claim {a : SA} {np nq q D : Nat} (hW : WF a np nq) (hD : D ≤ np) (hfree : ∀ p, D = p + 1 → ∀ i, i < nq → a 6 i ≠ p + 1) : WF (a2 a 6 q D) np nq := by
  obtain ⟨h1, h2, h3, h4, h5⟩ := hW
  refine ⟨h1, h2, fun p hp => ?_, fun i hi => ?_, fun i j hi hj e ne => ?_⟩
  · rw [a2_n (by omega), a2_n (by omega), a2_n (by omega)]; exact h3 p hp
  · rw [a2_n (by omega), a2_n (by omega), a2_n (by omega)]
    have := h4 i hi
    refine ⟨this.1, this.2.1, this.2.2.1, ?_⟩
    by_cases e : i = q
    · subst e; rw [a2_s]; exact hD
    · rw [a2_n (by omega)]; exact this.2.2.2
  · by_cases ei : i = q
    · subst ei
      by_cases ej : j = i
      · exact ej.symm
      · rw [a2_s, a2_n (by omega)] at e
        rw [a2_s] at ne
        exact absurd e.symm (by have := hfree (D - 1) (by omega) j hj; omega)
    · by_cases ej : j = q
      · subst ej
        rw [a2_s, a2_n (by omega)] at e
        rw [a2_n (by omega)] at ne
        exact absurd e (by have := hfree (D - 1) (by omega) i hi; omega)
      · rw [a2_n (by omega), a2_n (by omega)] at e
        rw [a2_n (by omega)] at ne
        exact h5 i j hi hj e ne
theorem WF_lc {a : SA} {np nq hr : Nat} (hW : WF a np nq) : ∀ q, WF (lc a np nq hr q) np nq := by
  intro q
  induction q with
  | zero => exact hW
  | succ q ih =>
    rw [lc]
    split
    · refine WF_claim ih (dft_le _ _ _) (fun p hp => ?_)
      exact fitB_free (dft_fit _ _ hp).2
    · exact ih
/-- the first p puddles lessened -/
def lessenK (a : SA) (np hr p : Nat) : SA := fun k j => if k = 2 ∧ j < p then a 2 j - less a np hr j else a k j
theorem lessenK_0 (a : SA) (np hr : Nat) : lessenK a np hr 0 = a := by funext k j; simp [lessenK]
theorem lessenK_s (a : SA) (np hr p : Nat) : a2 (lessenK a np hr p) 2 p (a 2 p - less a np hr p) = lessenK a np hr (p + 1) := by
  funext k j
  by_cases h : k = 2 ∧ j = p
  · obtain ⟨rfl, rfl⟩ := h
    rw [a2_s]; simp [lessenK]
  · rw [a2_n h]
    by_cases h2 : k = 2 ∧ j < p
    · have h3 : k = 2 ∧ j < p + 1 := ⟨h2.1, by omega⟩
      simp only [lessenK, if_pos h2, if_pos h3]
    · have h3 : ¬ (k = 2 ∧ j < p + 1) := fun z => h2 ⟨z.1, by have : ¬ (j = p) := fun y => h ⟨z.1, y⟩; omega⟩
      simp only [lessenK, if_neg h2, if_neg h3]
theorem WF_deep {a a' : SA} {np nq : Nat} (hW : WF a np nq) (h0 : ∀ k j, k ≠ 2 → a' k j = a k j) (h2 : ∀ p, p < np → a' 2 p ≤ 60) : WF a' np nq := by
  obtain ⟨w1, w2, w3, w4, w5⟩ := hW
  refine ⟨w1, w2, fun p hp => ?_, fun q hq => ?_, fun i j hi hj e ne => ?_⟩
  · rw [h0 0 p (by omega), h0 1 p (by omega)]
    exact ⟨(w3 p hp).1, (w3 p hp).2.1, h2 p hp⟩
  · rw [h0 3 q (by omega), h0 4 q (by omega), h0 5 q (by omega), h0 6 q (by omega)]
    exact w4 q hq
  · rw [h0 6 i (by omega), h0 6 j (by omega)] at e
    rw [h0 6 i (by omega)] at ne
    exact w5 i j hi hj e ne
theorem WF_lessenK {a : SA} {np nq hr p : Nat} (hW : WF a np nq) : WF (lessenK a np hr p) np nq := by
  refine WF_deep hW (fun k j hk => by simp [lessenK, hk]) (fun j hj => ?_)
  have := (hW.2.2.1 j hj).2.2
  simp only [lessenK]
  split <;> omega
theorem lessen_eq (a : SA) (np hr : Nat) : lessen a np hr = lessenK a np hr np := rfl
theorem WF_hourS {a : SA} {np nq hr : Nat} (hW : WF a np nq) : WF (hourS a np nq hr) np nq := WF_lessenK (WF_lc hW nq)
theorem WF_hoursN {a : SA} {np nq hr : Nat} (hW : WF a np nq) : ∀ k, WF (hoursN a np nq hr k) np nq := by
  intro k
  induction k with
  | zero => exact hW
  | succ k ih => exact WF_hourS ih
theorem less_le {a : SA} {np hr p : Nat} : less a np hr p ≤ 8 := by
  unfold less nbd kerb
  split
  · omega
  · split
    · split <;> omega
    · split
      · split <;> omega
      · split
        · split <;> split <;> split <;> omega
        · omega
theorem SX.dep {σ : Wd} {b : Nat} {a : SA} {np nq hr dr : Nat} (h : St σ b a np nq hr dr) (h7 : np ≤ 7) : ∃ (f : Nat → Int32) (m9 : Nat), σ (b + 3) = some (.inl (0, m9, .inl f)) ∧ 0 + np ≤ m9 ∧ m9 < 2 ^ 31 ∧ ∀ p, p < np → f (0 + p) = nI (a 2 p) := by
  obtain ⟨f, h1, h2⟩ := h.2.1 2 (by omega)
  exact ⟨f, 7, h1, by omega, by decide, fun p hp => by rw [Nat.zero_add]; exact h2 p hp⟩
theorem mxs {x y : Nat} (hx : x ≤ 1000) (hy : y ≤ 1000) : (if nI 0 < nI x - nI y then nI x - nI y else nI 0) = nI (x - y) := by
  by_cases h : y ≤ x
  · rw [pk_sub h]
    by_cases z : x - y = 0
    · rw [z]; simp
    · rw [if_pos (nI_lt (by omega) (by omega))]
  · have h1 : nI x - nI y < 0 := pk_sneg (by omega) (by omega)
    have h2 : ¬ nI 0 < nI x - nI y := by
      rw [nI_0]
      exact Int32.not_lt.mpr (Int32.le_of_lt h1)
    rw [if_neg h2, show x - y = 0 by omega]
theorem mns {x y : Nat} (hx : x ≤ 1000) (hy : y ≤ 1000) : (if nI y < nI x then nI y else nI x) = nI (min x y) := by
  by_cases h : y < x
  · rw [if_pos (nI_lt h (by omega)), Nat.min_eq_right (by omega)]
  · rw [if_neg (nI_nlt (by omega) (by omega)), Nat.min_eq_left (by omega)]
set_option maxHeartbeats 4000000 in
set_option maxRecDepth 100000 in
theorem c_X4_letClaim (l : Launch) (d : Nat) (X : Nat × (Nat → Int32)) (n : Nat) {σ : Wd} {b : Nat} {a : SA} {np nq hr dr : Nat} (hS : St σ b a np nq hr dr) (hW : WF a np nq) (hh : hr < 100000) : CN l yX4_letClaim cX4_letClaim 2 none ((d + 2)) X n [.ref b] σ (fun v σ' => v = none ∧ (St σ' b (lc a np nq hr nq) np nq hr dr ∧ Eqo b 8 σ σ')) := by
  refine CN.of (by decide) [some (.ref b), none] (fun _ => Nat.le_of_ble_eq_true rfl) (fun _ => rfl) (fun cx hc => ?_)
  have hW1 := hW.1
  have hW2 := hW.2.1
  refine R.iconst hc ic_0 dX4_letClaim_0 ?_
  refine R.istn1 hc dX4_letClaim_1 (by decide) rfl ?_
  refine rl_down (P := fun q => ∀ σ1, St σ1 b (lc a np nq hr q) np nq hr dr → Eqo b 8 σ σ1 → R cx 0 0 n σ1 2 [some (.ref b), some (.int (nI q))] []) nq (fun σ hS hF => ?_) (fun q hq ih σ hS hF => ?_) 0 (Nat.zero_le _) σ hS Eqo.rf
  · refine R.iload_n (j := 1) (i := 1) hc rfl rfl dX4_letClaim_2 ?_
    refine R.aload_n (j := 0) (i := 0) hc rfl rfl dX4_letClaim_3 ?_
    refine R.get hc gf_X4_37_r dX4_letClaim_4 (hS.obj) rfl ?_
    refine R.icmpN_ge (tgt := 57) hc dX4_letClaim_7 (by decide) (by omega) (by omega) (fun _ => ?_) (fun q => absurd (Nat.le_refl _) q)
    exact R.vret hc rfl dX4_letClaim_57 ⟨rfl, rfl, hS, hF⟩
  · have hWq := WF_lc (hr := hr) hW q
    have hq3 := hWq.2.2.2.1 q hq
    have hcl := clS_lt hWq nq (Nat.le_refl _)
    refine R.iload_n (j := 1) (i := 1) hc rfl rfl dX4_letClaim_2 ?_
    refine R.aload_n (j := 0) (i := 0) hc rfl rfl dX4_letClaim_3 ?_
    refine R.get hc gf_X4_37_r dX4_letClaim_4 (hS.obj) rfl ?_
    refine R.icmpN_ge (tgt := 57) hc dX4_letClaim_7 (by decide) (by omega) (by omega) (fun q => absurd q (by omega)) (fun _ => ?_)
    refine R.aload_n (j := 0) (i := 0) hc rfl rfl dX4_letClaim_10 ?_
    refine R.get hc gf_X4_24_r dX4_letClaim_11 (hS.obj) rfl ?_
    refine R.iload_n (j := 1) (i := 1) hc rfl rfl dX4_letClaim_14 ?_
    refine R.ialdE hc dX4_letClaim_15 (hS.r4 (by omega)) (by omega) (by decide) ?_
    refine R.aload_n (j := 0) (i := 0) hc rfl rfl dX4_letClaim_16 ?_
    refine R.get hc gf_X4_40_r dX4_letClaim_17 (hS.obj) rfl ?_
    refine R.icmpN_gt (tgt := 51) hc dX4_letClaim_20 (by decide) (by omega) (by omega) (fun z => ?_) (fun z => ?_)
    · refine R.iinc1 hc dX4_letClaim_51 (iiN1 _) (by decide) rfl ?_
      refine R.goto (tgt := 2) hc dX4_letClaim_54 (by decide) ?_
      exact ih σ (by rw [lc, if_neg (by omega)]; exact hS) hF
    refine R.aload_n (j := 0) (i := 0) hc rfl rfl dX4_letClaim_23 ?_
    refine R.iload_n (j := 1) (i := 1) hc rfl rfl dX4_letClaim_24 ?_
    refine R.cVr hc m_X4_hasClaimed lk_X4_56 dX4_letClaim_25 (c_X4_hasClaimed l (d + 1) X n hS hWq (by omega)) (hS.obj) rfl rfl rfl (by omega) ⟨Nat.le_refl _, Nat.le_refl _⟩ (Nat.le_of_ble_eq_true rfl) ?_
    refine R.ifB_ne (tgt := 51) hc dX4_letClaim_28 (by decide) (fun y => ?_) (fun y => ?_)
    · refine R.iinc1 hc dX4_letClaim_51 (iiN1 _) (by decide) rfl ?_
      refine R.goto (tgt := 2) hc dX4_letClaim_54 (by decide) ?_
      exact ih σ (by rw [lc, if_neg (by simp [hasC] at y; omega)]; exact hS) hF
    refine R.aload_n (j := 0) (i := 0) hc rfl rfl dX4_letClaim_31 ?_
    refine R.get hc gf_X4_30_r dX4_letClaim_32 (hS.obj) rfl ?_
    refine R.iload_n (j := 1) (i := 1) hc rfl rfl dX4_letClaim_35 ?_
    refine R.aload_n (j := 0) (i := 0) hc rfl rfl dX4_letClaim_36 ?_
    refine R.iload_n (j := 1) (i := 1) hc rfl rfl dX4_letClaim_37 ?_
    refine R.aload_n (j := 0) (i := 0) hc rfl rfl dX4_letClaim_38 ?_
    refine R.cVr hc m_X4_claimedSet lk_X4_59 dX4_letClaim_39 (c_X4_claimedSet l d X n hS hWq) (hS.obj) rfl rfl rfl (by omega) ⟨Nat.le_refl _, Nat.le_refl _⟩ (Nat.le_of_ble_eq_true rfl) ?_
    refine R.aload_n (j := 0) (i := 0) hc rfl rfl dX4_letClaim_42 ?_
    refine R.get hc gf_X4_18_r dX4_letClaim_43 (hS.obj) rfl ?_
    refine R.iconst hc ic_0 dX4_letClaim_46 ?_
    refine R.cVr hc m_X4_deepestFit lk_X4_88 dX4_letClaim_47 (c_X4_deepestFit (fr := 0) (dp := lc a np nq hr q 2) l d X n hS hWq (by omega) (by omega) (SX.dep hS (by omega)) (fun p hp => (hWq.2.2.1 p hp).2.2)) (hS.obj) rfl rfl rfl (by omega) ⟨Nat.le_refl _, Nat.le_refl _⟩ (Nat.le_of_ble_eq_true rfl) ?_
    refine R.iastW hc dX4_letClaim_50 (hS.w6 _ _) (by omega) (by decide) (fun σ hX => ?_)
    obtain ⟨hS, hE⟩ := hX
    have hF := hF.tr hE
    refine R.iinc1 hc dX4_letClaim_51 (iiN1 _) (by decide) rfl ?_
    refine R.goto (tgt := 2) hc dX4_letClaim_54 (by decide) ?_
    exact ih σ (by rw [lc, if_pos (by simp [hasC] at y; exact ⟨y, by omega⟩)]; exact hS) hF
set_option maxHeartbeats 4000000 in
set_option maxRecDepth 100000 in
theorem c_X4_lessen (l : Launch) (d : Nat) (X : Nat × (Nat → Int32)) (n : Nat) {σ : Wd} {b : Nat} {a : SA} {np nq hr dr : Nat} (hS : St σ b a np nq hr dr) (hW : WF a np nq) (hh : hr < 99999) : CN l yX4_lessen cX4_lessen 3 none ((d + 2)) X n [.ref b] σ (fun v σ' => v = none ∧ (St σ' b (lessen a np hr) np nq (hr + 1) dr ∧ Eqo b 8 σ σ')) := by
  refine CN.of (by decide) [some (.ref b), none, none] (fun _ => Nat.le_of_ble_eq_true rfl) (fun _ => rfl) (fun cx hc => ?_)
  have hW1 := hW.1
  have hW2 := hW.2.1
  have hl : bsN (dryB a) np < 128 := Nat.lt_of_lt_of_le (bsN_lt _ _) (Nat.pow_le_pow_right (by omega) hW1)
  refine R.aload_n (j := 0) (i := 0) hc rfl rfl dX4_lessen_0 ?_
  refine R.cVr hc m_X4_drySet lk_X4_92 dX4_lessen_1 (c_X4_drySet l d X n hS hW) (hS.obj) rfl rfl rfl (by omega) ⟨Nat.le_refl _, Nat.le_refl _⟩ (Nat.le_of_ble_eq_true rfl) ?_
  refine R.istn1 hc dX4_lessen_4 (by decide) rfl ?_
  refine R.iconst hc ic_0 dX4_lessen_5 ?_
  refine R.istn2 hc dX4_lessen_6 (by decide) rfl ?_
  have hS0 : St σ b (lessenK a np hr 0) np nq hr dr := by rw [lessenK_0]; exact hS
  refine rl_down (P := fun p => ∀ σ1, St σ1 b (lessenK a np hr p) np nq hr dr → Eqo b 8 σ σ1 → R cx 0 0 n σ1 7 [some (.ref b), some (.int (nI (bsN (dryB a) np))), some (.int (nI p))] []) np (fun σ hS hF => ?_) (fun p hp ih σ hS hF => ?_) 0 (Nat.zero_le _) σ hS0 Eqo.rf
  · refine R.iload_n (j := 2) (i := 2) hc rfl rfl dX4_lessen_7 ?_
    refine R.aload_n (j := 0) (i := 0) hc rfl rfl dX4_lessen_8 ?_
    refine R.get hc gf_X4_33_r dX4_lessen_9 (hS.obj) rfl ?_
    refine R.icmpN_ge (tgt := 44) hc dX4_lessen_12 (by decide) (by omega) (by omega) (fun _ => ?_) (fun q => absurd (Nat.le_refl _) q)
    refine R.aload_n (j := 0) (i := 0) hc rfl rfl dX4_lessen_44 ?_
    refine R.dup hc rfl dX4_lessen_45 ?_
    refine R.get hc gf_X4_40_r dX4_lessen_46 (hS.obj) rfl ?_
    refine R.iconst hc ic_1 dX4_lessen_49 ?_
    first | refine R.iaddN hc dX4_lessen_50 ?_ | refine R.iadd hc dX4_lessen_50 ?_
    refine R.putW hc gf_X4_40 dX4_lessen_51 (hS.p9 _) (fun _ => rfl) (fun _ => rfl) (fun σ hX => ?_)
    exact R.vret hc rfl dX4_lessen_54 ⟨rfl, rfl, hX.1, hF.tr hX.2⟩
  · have hp3 := hW.2.2.1 p hp
    have hle : less a np hr p ≤ 8 := less_le
    have hh : hr < 100000 := by omega
    refine R.iload_n (j := 2) (i := 2) hc rfl rfl dX4_lessen_7 ?_
    refine R.aload_n (j := 0) (i := 0) hc rfl rfl dX4_lessen_8 ?_
    refine R.get hc gf_X4_33_r dX4_lessen_9 (hS.obj) rfl ?_
    refine R.icmpN_ge (tgt := 44) hc dX4_lessen_12 (by decide) (by omega) (by omega) (fun q => absurd q (by omega)) (fun _ => ?_)
    have e1 : lessenK a np hr p 2 p = a 2 p := by simp [lessenK]
    have e2 : lessD (lessenK a np hr p) hr (bsN (dryB a) np) p = less a np hr p := by
      rw [← lessD_eq hW hp]
      unfold lessD
      rw [e1, show lessenK a np hr p 0 p = a 0 p by simp [lessenK]]
    refine R.aload_n (j := 0) (i := 0) hc rfl rfl dX4_lessen_15 ?_
    refine R.get hc gf_X4_18_r dX4_lessen_16 (hS.obj) rfl ?_
    refine R.iload_n (j := 2) (i := 2) hc rfl rfl dX4_lessen_19 ?_
    refine R.iconst hc ic_0 dX4_lessen_20 ?_
    refine R.aload_n (j := 0) (i := 0) hc rfl rfl dX4_lessen_21 ?_
    refine R.get hc gf_X4_18_r dX4_lessen_22 (hS.obj) rfl ?_
    refine R.iload_n (j := 2) (i := 2) hc rfl rfl dX4_lessen_25 ?_
    refine R.ialdE hc dX4_lessen_26 (hS.r2 (by omega)) (by omega) (by decide) ?_
    refine R.aload_n (j := 0) (i := 0) hc rfl rfl dX4_lessen_27 ?_
    refine R.iload_n (j := 2) (i := 2) hc rfl rfl dX4_lessen_28 ?_
    refine R.iload_n (j := 1) (i := 1) hc rfl rfl dX4_lessen_29 ?_
    refine R.cVr hc m_X4_lessBy lk_X4_95 dX4_lessen_30 (c_X4_lessBy l d X n hS (WF_lessenK hW) hh (by omega) (by omega)) (hS.obj) rfl rfl rfl (by omega) ⟨Nat.le_refl _, Nat.le_refl _⟩ (Nat.le_of_ble_eq_true rfl) ?_
    rw [e1, e2]
    refine R.isub hc dX4_lessen_33 ?_
    refine R.mmax hc lk_X4_99 (by omega) (Nat.le_of_ble_eq_true rfl) ⟨Nat.le_refl _, Nat.le_refl _⟩ dX4_lessen_34 ?_
    rw [mxs (by omega) (by omega)]
    refine R.iastW hc dX4_lessen_37 (hS.w2 _ _) (by omega) (by decide) (fun σ hX => ?_)
    obtain ⟨hS, hE⟩ := hX
    rw [lessenK_s] at hS
    refine R.iinc2 hc dX4_lessen_38 (iiN1 _) (by decide) rfl ?_
    refine R.goto (tgt := 7) hc dX4_lessen_41 (by decide) ?_
    exact ih σ hS (hF.tr hE)
set_option maxHeartbeats 4000000 in
set_option maxRecDepth 100000 in
theorem c_X4_passHour (l : Launch) (d : Nat) (X : Nat × (Nat → Int32)) (n : Nat) {σ : Wd} {b : Nat} {a : SA} {np nq hr dr : Nat} (hS : St σ b a np nq hr dr) (hW : WF a np nq) (hh : hr < 99999) : CN l yX4_passHour cX4_passHour 1 none ((d + 3)) X n [.ref b] σ (fun v σ' => v = none ∧ (St σ' b (hourS a np nq hr) np nq (hr + 1) dr ∧ Eqo b 8 σ σ')) := by
  refine CN.of (by decide) [some (.ref b)] (fun _ => Nat.le_of_ble_eq_true rfl) (fun _ => rfl) (fun cx hc => ?_)
  refine R.aload_n (j := 0) (i := 0) hc rfl rfl dX4_passHour_0 ?_
  refine R.cVu hc m_X4_letClaim lk_X4_82 dX4_passHour_1 (c_X4_letClaim l d X n hS hW (by omega)) (hS.obj) rfl rfl rfl (by omega) ⟨Nat.le_refl _, Nat.le_refl _⟩ (Nat.le_of_ble_eq_true rfl) (fun σ hX => ?_)
  obtain ⟨hS, hF⟩ := hX
  refine R.aload_n (j := 0) (i := 0) hc rfl rfl dX4_passHour_4 ?_
  refine R.cVu hc m_X4_lessen lk_X4_85 dX4_passHour_5 (c_X4_lessen l d X n hS (WF_lc hW nq) hh) (hS.obj) rfl rfl rfl (by omega) ⟨Nat.le_refl _, Nat.le_refl _⟩ (Nat.le_of_ble_eq_true rfl) (fun σ hX => ?_)
  exact R.vret hc rfl dX4_passHour_8 ⟨rfl, rfl, hX.1, hF.tr hX.2⟩
/-- rained by x: the first p puddles -/
def rainK (a : SA) (x p : Nat) : SA := fun k j => if k = 2 ∧ j < p then min 60 (a 2 j + x) else a k j
theorem rainK_0 (a : SA) (x : Nat) : rainK a x 0 = a := by funext k j; simp [rainK]
theorem rainK_s (a : SA) (x p : Nat) : a2 (rainK a x p) 2 p (min 60 (a 2 p + x)) = rainK a x (p + 1) := by
  funext k j
  by_cases h : k = 2 ∧ j = p
  · obtain ⟨rfl, rfl⟩ := h
    rw [a2_s]; simp [rainK]
  · rw [a2_n h]
    by_cases h2 : k = 2 ∧ j < p
    · have h3 : k = 2 ∧ j < p + 1 := ⟨h2.1, by omega⟩
      simp only [rainK, if_pos h2, if_pos h3]
    · have h3 : ¬ (k = 2 ∧ j < p + 1) := fun z => h2 ⟨z.1, by have : ¬ (j = p) := fun y => h ⟨z.1, y⟩; omega⟩
      simp only [rainK, if_neg h2, if_neg h3]
theorem WF_rainK {a : SA} {np nq x p : Nat} (hW : WF a np nq) : WF (rainK a x p) np nq := by
  refine WF_deep hW (fun k j hk => by simp [rainK, hk]) (fun j hj => ?_)
  have := (hW.2.2.1 j hj).2.2
  simp only [rainK]
  split
  · exact Nat.min_le_left _ _
  · exact this
set_option maxHeartbeats 4000000 in
set_option maxRecDepth 100000 in
theorem c_X4_deepen (l : Launch) (d : Nat) (X : Nat × (Nat → Int32)) (n : Nat) {σ : Wd} {b : Nat} {a : SA} {np nq hr dr : Nat} (hS : St σ b a np nq hr dr) (hW : WF a np nq) {x : Nat} (hx : x ≤ 60) : CN l yX4_deepen cX4_deepen 3 none ((d + 1)) X n [.ref b, .int (nI x)] σ (fun v σ' => v = none ∧ (St σ' b (rainK a x np) np nq hr dr ∧ Eqo b 8 σ σ')) := by
  refine CN.of (by decide) [some (.ref b), some (.int (nI x)), none] (fun _ => Nat.le_of_ble_eq_true rfl) (fun _ => rfl) (fun cx hc => ?_)
  have hW1 := hW.1
  have hW2 := hW.2.1
  refine R.iconst hc ic_0 dX4_deepen_0 ?_
  refine R.istn2 hc dX4_deepen_1 (by decide) rfl ?_
  have hS0 : St σ b (rainK a x 0) np nq hr dr := by rw [rainK_0]; exact hS
  refine rl_down (P := fun p => ∀ σ1, St σ1 b (rainK a x p) np nq hr dr → Eqo b 8 σ σ1 → R cx 0 0 n σ1 2 [some (.ref b), some (.int (nI x)), some (.int (nI p))] []) np (fun σ hS hF => ?_) (fun p hp ih σ hS hF => ?_) 0 (Nat.zero_le _) σ hS0 Eqo.rf
  · refine R.iload_n (j := 2) (i := 2) hc rfl rfl dX4_deepen_2 ?_
    refine R.aload_n (j := 0) (i := 0) hc rfl rfl dX4_deepen_3 ?_
    refine R.get hc gf_X4_33_r dX4_deepen_4 (hS.obj) rfl ?_
    refine R.icmpN_ge (tgt := 35) hc dX4_deepen_7 (by decide) (by omega) (by omega) (fun _ => ?_) (fun q => absurd (Nat.le_refl _) q)
    exact R.vret hc rfl dX4_deepen_35 ⟨rfl, rfl, hS, hF⟩
  · have hp3 := hW.2.2.1 p hp
    have e1 : rainK a x p 2 p = a 2 p := by simp [rainK]
    refine R.iload_n (j := 2) (i := 2) hc rfl rfl dX4_deepen_2 ?_
    refine R.aload_n (j := 0) (i := 0) hc rfl rfl dX4_deepen_3 ?_
    refine R.get hc gf_X4_33_r dX4_deepen_4 (hS.obj) rfl ?_
    refine R.icmpN_ge (tgt := 35) hc dX4_deepen_7 (by decide) (by omega) (by omega) (fun q => absurd q (by omega)) (fun _ => ?_)
    refine R.aload_n (j := 0) (i := 0) hc rfl rfl dX4_deepen_10 ?_
    refine R.get hc gf_X4_18_r dX4_deepen_11 (hS.obj) rfl ?_
    refine R.iload_n (j := 2) (i := 2) hc rfl rfl dX4_deepen_14 ?_
    refine R.bipush hc bp_60 dX4_deepen_15 ?_
    refine R.aload_n (j := 0) (i := 0) hc rfl rfl dX4_deepen_17 ?_
    refine R.get hc gf_X4_18_r dX4_deepen_18 (hS.obj) rfl ?_
    refine R.iload_n (j := 2) (i := 2) hc rfl rfl dX4_deepen_21 ?_
    refine R.ialdE hc dX4_deepen_22 (hS.r2 (by omega)) (by omega) (by decide) ?_
    rw [e1]
    refine R.iload_n (j := 1) (i := 1) hc rfl rfl dX4_deepen_23 ?_
    first | refine R.iaddN hc dX4_deepen_24 ?_ | refine R.iadd hc dX4_deepen_24 ?_
    refine R.mmin hc lk_X4_114 (by omega) (Nat.le_of_ble_eq_true rfl) ⟨Nat.le_refl _, Nat.le_refl _⟩ dX4_deepen_25 ?_
    rw [mns (by omega) (by omega)]
    refine R.iastW hc dX4_deepen_28 (hS.w2 _ _) (by omega) (by decide) (fun σ hX => ?_)
    obtain ⟨hS, hE⟩ := hX
    rw [rainK_s] at hS
    refine R.iinc2 hc dX4_deepen_29 (iiN1 _) (by decide) rfl ?_
    refine R.goto (tgt := 2) hc dX4_deepen_32 (by decide) ?_
    exact ih σ hS (hF.tr hE)
set_option maxHeartbeats 4000000 in
set_option maxRecDepth 100000 in
theorem c_X4_halve (l : Launch) (d : Nat) (X : Nat × (Nat → Int32)) (n : Nat) {σ : Wd} {b : Nat} {a : SA} {np nq hr dr : Nat} (hS : St σ b a np nq hr dr) (hW : WF a np nq) {p : Nat} (hp : p < np) : CN l yX4_halve cX4_halve 2 none (d) X n [.ref b, .int (nI p)] σ (fun v σ' => v = none ∧ (St σ' b (a2 a 2 p (a 2 p / 2)) np nq hr dr ∧ Eqo b 8 σ σ')) := by
  refine CN.of (by decide) [some (.ref b), some (.int (nI p))] (fun _ => Nat.le_of_ble_eq_true rfl) (fun _ => rfl) (fun cx hc => ?_)
  have hW1 := hW.1
  have hW2 := hW.2.1
  have hp3 := hW.2.2.1 p hp
  refine R.aload_n (j := 0) (i := 0) hc rfl rfl dX4_halve_0 ?_
  refine R.get hc gf_X4_18_r dX4_halve_1 (hS.obj) rfl ?_
  refine R.iload_n (j := 1) (i := 1) hc rfl rfl dX4_halve_4 ?_
  refine R.dup2 hc rfl rfl dX4_halve_5 ?_
  refine R.ialdE hc dX4_halve_6 (hS.r2 (by omega)) (by omega) (by decide) ?_
  refine R.iconst hc ic_2 dX4_halve_7 ?_
  first | refine R.idivN hc (by omega) (by omega) (by omega) dX4_halve_8 ?_ | refine R.idiv hc (by decide) dX4_halve_8 ?_
  refine R.iastW hc dX4_halve_9 (hS.w2 _ _) (by omega) (by decide) (fun σ hX => ?_)
  exact R.vret hc rfl dX4_halve_10 ⟨rfl, rfl, hX⟩
set_option maxHeartbeats 4000000 in
set_option maxRecDepth 100000 in
theorem c_X4_empty (l : Launch) (d : Nat) (X : Nat × (Nat → Int32)) (n : Nat) {σ : Wd} {b : Nat} {a : SA} {np nq hr dr : Nat} (hS : St σ b a np nq hr dr) : CN l yX4_empty cX4_empty 1 none (d) X n [.ref b] σ (fun v σ' => v = none ∧ (St σ' b a 0 0 0 dr ∧ Eqo b 8 σ σ')) := by
  refine CN.of (by decide) [some (.ref b)] (fun _ => Nat.le_of_ble_eq_true rfl) (fun _ => rfl) (fun cx hc => ?_)
  refine R.aload_n (j := 0) (i := 0) hc rfl rfl dX4_empty_0 ?_
  refine R.iconst hc ic_0 dX4_empty_1 ?_
  refine R.putW hc gf_X4_33 dX4_empty_2 (hS.p7 _) (fun _ => rfl) (fun _ => rfl) (fun σ hX => ?_)
  obtain ⟨hS, hF⟩ := hX
  refine R.aload_n (j := 0) (i := 0) hc rfl rfl dX4_empty_5 ?_
  refine R.iconst hc ic_0 dX4_empty_6 ?_
  refine R.putW hc gf_X4_37 dX4_empty_7 (hS.p8 _) (fun _ => rfl) (fun _ => rfl) (fun σ hX => ?_)
  obtain ⟨hS, hE⟩ := hX
  have hF := hF.tr hE
  refine R.aload_n (j := 0) (i := 0) hc rfl rfl dX4_empty_10 ?_
  refine R.iconst hc ic_0 dX4_empty_11 ?_
  refine R.putW hc gf_X4_40 dX4_empty_12 (hS.p9 _) (fun _ => rfl) (fun _ => rfl) (fun σ hX => ?_)
  exact R.vret hc rfl dX4_empty_15 ⟨rfl, rfl, hX.1.ext (by omega) (by omega) (fun k _ p hp => absurd hp (by omega)) (fun k _ _ p hp => absurd hp (by omega)), hF.tr hX.2⟩
def a3 (a : SA) (p x y z : Nat) : SA := a2 (a2 (a2 a 0 p x) 1 p y) 2 p z
def a4 (a : SA) (q x y z : Nat) : SA := a2 (a2 (a2 (a2 a 3 q x) 4 q y) 5 q z) 6 q 0
set_option maxHeartbeats 4000000 in
set_option maxRecDepth 100000 in
theorem c_X4_addPuddle (l : Launch) (d : Nat) (X : Nat × (Nat → Int32)) (n : Nat) {σ : Wd} {b : Nat} {a : SA} {np nq hr dr : Nat} (hS : St σ b a np nq hr dr) {x y z : Nat} (h7 : np < 7) (hW2 : nq ≤ 6) : CN l yX4_addPuddle cX4_addPuddle 4 (some .int) (d) X n [.ref b, .int (nI x), .int (nI y), .int (nI z)] σ (fun v σ' => v = some (.int (nI np)) ∧ (St σ' b (a3 a np x y z) (np + 1) nq hr dr ∧ Eqo b 8 σ σ')) := by
  refine CN.of (by decide) [some (.ref b), some (.int (nI x)), some (.int (nI y)), some (.int (nI z))] (fun _ => Nat.le_of_ble_eq_true rfl) (fun _ => rfl) (fun cx hc => ?_)
  obtain ⟨a0, hS, e1, e2⟩ := hS.full
  refine R.aload_n (j := 0) (i := 0) hc rfl rfl dX4_addPuddle_0 ?_
  refine R.get hc gf_X4_33_r dX4_addPuddle_1 (hS.obj) rfl ?_
  refine R.bipush hc bp_7 dX4_addPuddle_4 ?_
  refine R.icmpN_lt (tgt := 12) hc dX4_addPuddle_6 (by decide) (by omega) (by omega) (fun _ => ?_) (fun q => absurd h7 q)
  refine R.aload_n (j := 0) (i := 0) hc rfl rfl dX4_addPuddle_12 ?_
  refine R.get hc gf_X4_11_r dX4_addPuddle_13 (hS.obj) rfl ?_
  refine R.aload_n (j := 0) (i := 0) hc rfl rfl dX4_addPuddle_16 ?_
  refine R.get hc gf_X4_33_r dX4_addPuddle_17 (hS.obj) rfl ?_
  refine R.iload_n (j := 1) (i := 1) hc rfl rfl dX4_addPuddle_20 ?_
  refine R.iastW hc dX4_addPuddle_21 (hS.w0 _ _) (by omega) (by decide) (fun σ hX => ?_)
  obtain ⟨hS, hF⟩ := hX
  refine R.aload_n (j := 0) (i := 0) hc rfl rfl dX4_addPuddle_22 ?_
  refine R.get hc gf_X4_15_r dX4_addPuddle_23 (hS.obj) rfl ?_
  refine R.aload_n (j := 0) (i := 0) hc rfl rfl dX4_addPuddle_26 ?_
  refine R.get hc gf_X4_33_r dX4_addPuddle_27 (hS.obj) rfl ?_
  refine R.iload_n (j := 2) (i := 2) hc rfl rfl dX4_addPuddle_30 ?_
  refine R.iastW hc dX4_addPuddle_31 (hS.w1 _ _) (by omega) (by decide) (fun σ hX => ?_)
  obtain ⟨hS, hE⟩ := hX
  have hF := hF.tr hE
  refine R.aload_n (j := 0) (i := 0) hc rfl rfl dX4_addPuddle_32 ?_
  refine R.get hc gf_X4_18_r dX4_addPuddle_33 (hS.obj) rfl ?_
  refine R.aload_n (j := 0) (i := 0) hc rfl rfl dX4_addPuddle_36 ?_
  refine R.get hc gf_X4_33_r dX4_addPuddle_37 (hS.obj) rfl ?_
  refine R.iload_n (j := 3) (i := 3) hc rfl rfl dX4_addPuddle_40 ?_
  refine R.iastW hc dX4_addPuddle_41 (hS.w2 _ _) (by omega) (by decide) (fun σ hX => ?_)
  obtain ⟨hS, hE⟩ := hX
  have hF := hF.tr hE
  refine R.aload_n (j := 0) (i := 0) hc rfl rfl dX4_addPuddle_42 ?_
  refine R.dup hc rfl dX4_addPuddle_43 ?_
  refine R.get hc gf_X4_33_r dX4_addPuddle_44 (hS.obj) rfl ?_
  refine R.iconst hc ic_1 dX4_addPuddle_47 ?_
  first | refine R.iaddN hc dX4_addPuddle_48 ?_ | refine R.iadd hc dX4_addPuddle_48 ?_
  refine R.putW hc gf_X4_33 dX4_addPuddle_49 (hS.p7 _) (fun _ => rfl) (fun _ => rfl) (fun σ hX => ?_)
  obtain ⟨hS, hE⟩ := hX
  have hF := hF.tr hE
  refine R.aload_n (j := 0) (i := 0) hc rfl rfl dX4_addPuddle_52 ?_
  refine R.get hc gf_X4_33_r dX4_addPuddle_53 (hS.obj) rfl ?_
  refine R.iconst hc ic_1 dX4_addPuddle_56 ?_
  first | refine R.isubN hc (by omega) dX4_addPuddle_57 ?_ | refine R.isub hc dX4_addPuddle_57 ?_
  have e9 : nI (np + 1 - 1) = nI np := by rw [Nat.add_sub_cancel]
  refine R.iret hc rfl dX4_addPuddle_58 ⟨rfl, by rw [e9], hS.ext (by omega) (by omega) (fun k hk p hp => ?_) (fun k hk hk2 q hq => ?_), hF⟩
  · unfold a3
    by_cases e : p = np
    · subst e
      rcases (by omega : k = 0 ∨ k = 1 ∨ k = 2) with rfl | rfl | rfl <;> simp [a2]
    · rw [a2_n (by omega), a2_n (by omega), a2_n (by omega), a2_n (by omega), a2_n (by omega), a2_n (by omega)]
      exact (e1 k hk p (by omega)).symm
  · unfold a3
    rw [a2_n (by omega), a2_n (by omega), a2_n (by omega), a2_n (by omega), a2_n (by omega), a2_n (by omega)]
    exact (e2 k hk hk2 q hq).symm
set_option maxHeartbeats 4000000 in
set_option maxRecDepth 100000 in
theorem c_X4_addPerson (l : Launch) (d : Nat) (X : Nat × (Nat → Int32)) (n : Nat) {σ : Wd} {b : Nat} {a : SA} {np nq hr dr : Nat} (hS : St σ b a np nq hr dr) {x y z : Nat} (h7 : nq < 6) (hW1 : np ≤ 7) : CN l yX4_addPerson cX4_addPerson 4 (some .int) (d) X n [.ref b, .int (nI x), .int (nI y), .int (nI z)] σ (fun v σ' => v = some (.int (nI nq)) ∧ (St σ' b (a4 a nq x y z) np (nq + 1) hr dr ∧ Eqo b 8 σ σ')) := by
  refine CN.of (by decide) [some (.ref b), some (.int (nI x)), some (.int (nI y)), some (.int (nI z))] (fun _ => Nat.le_of_ble_eq_true rfl) (fun _ => rfl) (fun cx hc => ?_)
  obtain ⟨a0, hS, e1, e2⟩ := hS.full
  refine R.aload_n (j := 0) (i := 0) hc rfl rfl dX4_addPerson_0 ?_
  refine R.get hc gf_X4_37_r dX4_addPerson_1 (hS.obj) rfl ?_
  refine R.bipush hc bp_6 dX4_addPerson_4 ?_
  refine R.icmpN_lt (tgt := 12) hc dX4_addPerson_6 (by decide) (by omega) (by omega) (fun _ => ?_) (fun q => absurd h7 q)
  refine R.aload_n (j := 0) (i := 0) hc rfl rfl dX4_addPerson_12 ?_
  refine R.get hc gf_X4_21_r dX4_addPerson_13 (hS.obj) rfl ?_
  refine R.aload_n (j := 0) (i := 0) hc rfl rfl dX4_addPerson_16 ?_
  refine R.get hc gf_X4_37_r dX4_addPerson_17 (hS.obj) rfl ?_
  refine R.iload_n (j := 1) (i := 1) hc rfl rfl dX4_addPerson_20 ?_
  refine R.iastW hc dX4_addPerson_21 (hS.w3 _ _) (by omega) (by decide) (fun σ hX => ?_)
  obtain ⟨hS, hF⟩ := hX
  refine R.aload_n (j := 0) (i := 0) hc rfl rfl dX4_addPerson_22 ?_
  refine R.get hc gf_X4_24_r dX4_addPerson_23 (hS.obj) rfl ?_
  refine R.aload_n (j := 0) (i := 0) hc rfl rfl dX4_addPerson_26 ?_
  refine R.get hc gf_X4_37_r dX4_addPerson_27 (hS.obj) rfl ?_
  refine R.iload_n (j := 2) (i := 2) hc rfl rfl dX4_addPerson_30 ?_
  refine R.iastW hc dX4_addPerson_31 (hS.w4 _ _) (by omega) (by decide) (fun σ hX => ?_)
  obtain ⟨hS, hE⟩ := hX
  have hF := hF.tr hE
  refine R.aload_n (j := 0) (i := 0) hc rfl rfl dX4_addPerson_32 ?_
  refine R.get hc gf_X4_27_r dX4_addPerson_33 (hS.obj) rfl ?_
  refine R.aload_n (j := 0) (i := 0) hc rfl rfl dX4_addPerson_36 ?_
  refine R.get hc gf_X4_37_r dX4_addPerson_37 (hS.obj) rfl ?_
  refine R.iload_n (j := 3) (i := 3) hc rfl rfl dX4_addPerson_40 ?_
  refine R.iastW hc dX4_addPerson_41 (hS.w5 _ _) (by omega) (by decide) (fun σ hX => ?_)
  obtain ⟨hS, hE⟩ := hX
  have hF := hF.tr hE
  refine R.aload_n (j := 0) (i := 0) hc rfl rfl dX4_addPerson_42 ?_
  refine R.get hc gf_X4_30_r dX4_addPerson_43 (hS.obj) rfl ?_
  refine R.aload_n (j := 0) (i := 0) hc rfl rfl dX4_addPerson_46 ?_
  refine R.get hc gf_X4_37_r dX4_addPerson_47 (hS.obj) rfl ?_
  refine R.bipush hc bp_m4 dX4_addPerson_50 ?_
  refine R.iastW hc dX4_addPerson_52 (hS.w6 _ 0) (by omega) (by decide) (fun σ hX => ?_)
  obtain ⟨hS, hE⟩ := hX
  have hF := hF.tr hE
  refine R.aload_n (j := 0) (i := 0) hc rfl rfl dX4_addPerson_53 ?_
  refine R.dup hc rfl dX4_addPerson_54 ?_
  refine R.get hc gf_X4_37_r dX4_addPerson_55 (hS.obj) rfl ?_
  refine R.iconst hc ic_1 dX4_addPerson_58 ?_
  first | refine R.iaddN hc dX4_addPerson_59 ?_ | refine R.iadd hc dX4_addPerson_59 ?_
  refine R.putW hc gf_X4_37 dX4_addPerson_60 (hS.p8 _) (fun _ => rfl) (fun _ => rfl) (fun σ hX => ?_)
  obtain ⟨hS, hE⟩ := hX
  have hF := hF.tr hE
  refine R.aload_n (j := 0) (i := 0) hc rfl rfl dX4_addPerson_63 ?_
  refine R.get hc gf_X4_37_r dX4_addPerson_64 (hS.obj) rfl ?_
  refine R.iconst hc ic_1 dX4_addPerson_67 ?_
  first | refine R.isubN hc (by omega) dX4_addPerson_68 ?_ | refine R.isub hc dX4_addPerson_68 ?_
  have e9 : nI (nq + 1 - 1) = nI nq := by rw [Nat.add_sub_cancel]
  refine R.iret hc rfl dX4_addPerson_69 ⟨rfl, by rw [e9], hS.ext (by omega) (by omega) (fun k hk p hp => ?_) (fun k hk hk2 q hq => ?_), hF⟩
  · unfold a4
    rw [a2_n (by omega), a2_n (by omega), a2_n (by omega), a2_n (by omega), a2_n (by omega), a2_n (by omega), a2_n (by omega), a2_n (by omega)]
    exact (e1 k hk p hp).symm
  · unfold a4
    by_cases e : q = nq
    · subst e
      rcases (by omega : k = 3 ∨ k = 4 ∨ k = 5 ∨ k = 6) with rfl | rfl | rfl | rfl <;> simp [a2]
    · rw [a2_n (by omega), a2_n (by omega), a2_n (by omega), a2_n (by omega), a2_n (by omega), a2_n (by omega), a2_n (by omega), a2_n (by omega)]
      exact (e2 k hk hk2 q (by omega)).symm
/-- somebody is to come yet -/
def anyC (a : SA) (hr : Nat) : Nat → Nat → Bool
  | 0, _ => false
  | j + 1, q => (decide (hr ≤ a 4 q) && !hasC a q) || anyC a hr j (q + 1)
set_option maxHeartbeats 4000000 in
set_option maxRecDepth 100000 in
theorem c_X4_isAnyoneToCome (l : Launch) (d : Nat) (X : Nat × (Nat → Int32)) (n : Nat) {σ : Wd} {b : Nat} {a : SA} {np nq hr dr : Nat} (hS : St σ b a np nq hr dr) (hW : WF a np nq) (hh : hr < 100000) : CN l yX4_isAnyoneToCome cX4_isAnyoneToCome 2 (some .boolean) ((d + 1)) X n [.ref b] σ (fun v σ' => v = some (.int (b2 (anyC a hr nq 0))) ∧ σ' = σ) := by
  refine CN.of (by decide) [some (.ref b), none] (fun _ => Nat.le_of_ble_eq_true rfl) (fun _ => rfl) (fun cx hc => ?_)
  have hW1 := hW.1
  have hW2 := hW.2.1
  refine R.iconst hc ic_0 dX4_isAnyoneToCome_0 ?_
  refine R.istn1 hc dX4_isAnyoneToCome_1 (by decide) rfl ?_
  have key : ∀ j q, q + j = nq → anyC a hr j q = anyC a hr nq 0 → R cx 0 0 n σ 2 [some (.ref b), some (.int (nI q))] [] := by
    intro j
    induction j with
    | zero =>
      intro q hq e
      refine R.iload_n (j := 1) (i := 1) hc rfl rfl dX4_isAnyoneToCome_2 ?_
      refine R.aload_n (j := 0) (i := 0) hc rfl rfl dX4_isAnyoneToCome_3 ?_
      refine R.get hc gf_X4_37_r dX4_isAnyoneToCome_4 (hS.obj) rfl ?_
      refine R.icmpN_ge (tgt := 39) hc dX4_isAnyoneToCome_7 (by decide) (by omega) (by omega) (fun _ => ?_) (fun z => absurd (by omega) z)
      refine R.iconst hc ic_0 dX4_isAnyoneToCome_39 ?_
      have e9 : nI 0 = b2 (anyC a hr nq 0) := by
        rw [← e]; rfl
      exact R.bret hc rfl dX4_isAnyoneToCome_40 e9 ⟨rfl, by rw [e9], rfl⟩
    | succ j ih =>
      intro q hq e
      have hq3 := hW.2.2.2.1 q (by omega)
      refine R.iload_n (j := 1) (i := 1) hc rfl rfl dX4_isAnyoneToCome_2 ?_
      refine R.aload_n (j := 0) (i := 0) hc rfl rfl dX4_isAnyoneToCome_3 ?_
      refine R.get hc gf_X4_37_r dX4_isAnyoneToCome_4 (hS.obj) rfl ?_
      refine R.icmpN_ge (tgt := 39) hc dX4_isAnyoneToCome_7 (by decide) (by omega) (by omega) (fun z => absurd z (by omega)) (fun _ => ?_)
      refine R.aload_n (j := 0) (i := 0) hc rfl rfl dX4_isAnyoneToCome_10 ?_
      refine R.get hc gf_X4_24_r dX4_isAnyoneToCome_11 (hS.obj) rfl ?_
      refine R.iload_n (j := 1) (i := 1) hc rfl rfl dX4_isAnyoneToCome_14 ?_
      refine R.ialdE hc dX4_isAnyoneToCome_15 (hS.r4 (by omega)) (by omega) (by decide) ?_
      refine R.aload_n (j := 0) (i := 0) hc rfl rfl dX4_isAnyoneToCome_16 ?_
      refine R.get hc gf_X4_40_r dX4_isAnyoneToCome_17 (hS.obj) rfl ?_
      refine R.icmpN_lt (tgt := 33) hc dX4_isAnyoneToCome_20 (by decide) (by omega) (by omega) (fun z => ?_) (fun z => ?_)
      · refine R.iinc1 hc dX4_isAnyoneToCome_33 (iiN1 _) (by decide) rfl ?_
        refine R.goto (tgt := 2) hc dX4_isAnyoneToCome_36 (by decide) ?_
        refine ih (q + 1) (by omega) ?_
        rw [← e, anyC, decide_eq_false (by omega)]; simp
      refine R.aload_n (j := 0) (i := 0) hc rfl rfl dX4_isAnyoneToCome_23 ?_
      refine R.iload_n (j := 1) (i := 1) hc rfl rfl dX4_isAnyoneToCome_24 ?_
      refine R.cVr hc m_X4_hasClaimed lk_X4_56 dX4_isAnyoneToCome_25 (c_X4_hasClaimed l d X n hS hW (by omega)) (hS.obj) rfl rfl rfl (by omega) ⟨Nat.le_refl _, Nat.le_refl _⟩ (Nat.le_of_ble_eq_true rfl) ?_
      refine R.ifB_ne (tgt := 33) hc dX4_isAnyoneToCome_28 (by decide) (fun y => ?_) (fun y => ?_)
      · refine R.iinc1 hc dX4_isAnyoneToCome_33 (iiN1 _) (by decide) rfl ?_
        refine R.goto (tgt := 2) hc dX4_isAnyoneToCome_36 (by decide) ?_
        refine ih (q + 1) (by omega) ?_
        rw [← e, anyC, y]; simp
      refine R.iconst hc ic_1 dX4_isAnyoneToCome_31 ?_
      have e9 : nI 1 = b2 (anyC a hr nq 0) := by
        rw [← e, anyC, y, decide_eq_true (by omega : hr ≤ a 4 q)]; rfl
      exact R.bret hc rfl dX4_isAnyoneToCome_32 e9 ⟨rfl, by rw [e9], rfl⟩
  exact key nq 0 (by omega) rfl
