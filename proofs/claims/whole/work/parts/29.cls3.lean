/-- the first number, of j from k on, of which P says yes -/
def firstF (P : Nat → Bool) : Nat → Nat → Int32
  | 0, _ => -4
  | j + 1, k => if P k then nI k else firstF P j (k + 1)
/-- the last number below h -/
def downF (P : Nat → Bool) : Nat → Int32
  | 0 => -4
  | h + 1 => if P h then nI h else downF P h
def s_ahead (a : SA) (np nq hr : Nat) (p k : Int32) : Int32 := if inI p np && inR k 0 40 then nI (hoursN a np nq hr (tN k) 2 (tN p)) else -1
def s_claims (a : SA) (np nq hr : Nat) (q k : Int32) : Int32 := if inI q nq && inR k 0 40 then cI (hoursN a np nq hr (tN k) 6 (tN q)) else -1
def s_then (a : SA) (np nq hr : Nat) (k : Int32) : Int32 := if inR k 0 40 then nI (bsN (hasC (hoursN a np nq hr (tN k))) nq) else -1
def s_served (a : SA) (np nq hr : Nat) (q : Int32) : Int32 := if inI q nq then firstF (fun k => hasC (hoursN a np nq hr k) (tN q)) 41 0 else -1
def s_dries (a : SA) (np nq hr : Nat) (p : Int32) : Int32 := if inI p np then firstF (fun k => dryB (hoursN a np nq hr k) (tN p)) 41 0 else -1
def s_latest (a : SA) (np nq hr : Nat) (q : Int32) : Int32 := if inI q nq then downF (fun h => hasC (hoursN (a2 a 4 (tN q) h) np nq hr 40) (tN q)) 21 else -1
/-- how many have claimed behind n hours -/
def many (a : SA) (np nq hr k : Nat) : Nat := pop (bsN (hasC (hoursN a np nq hr k)) nq)
def s_wet (a : SA) (np nq hr : Nat) (w : Int32) : Int32 := if inR w 1 30 then firstF (fun v => many (rainK a v np) np nq hr (tN w) == nq) 61 0 else -1
def mtF (hv : Nat → Nat) : Nat → Nat × Nat
  | 0 => (0, 0)
  | p + 1 => if (mtF hv p).1 = 0 ∨ hv p < (mtF hv p).2 then (p + 1, hv p) else mtF hv p
def mtA (hv : Nat → Nat) (np w : Nat) : Int32 := if w = 0 then cI (mtF hv np).1 else if (mtF hv np).1 = 0 then -4 else nI (mtF hv np).2
def s_matters (a : SA) (np nq hr : Nat) (k w : Int32) : Int32 := if inR k 1 30 && inR w 0 1 then mtA (fun p => many (a2 a 2 p 0) np nq hr (tN k)) np (tN w) else -1
def stF (hv : Nat → Nat) : Nat → Nat × Nat
  | 0 => (0, 0)
  | s + 1 => if (stF hv s).2 ≤ hv s then (s, hv s + 1) else stF hv s
def stA (hv : Nat → Nat) (w : Nat) : Int32 := if w = 0 then nI (stF hv 8).1 else lnI (stF hv 8).2
def s_sight (a : SA) (np nq hr : Nat) (p k w : Int32) : Int32 := if inI p np && inR k 1 30 && inR w 0 1 then stA (fun s => many (a2 a 1 (tN p) s) np nq hr (tN k)) (tN w) else -1
theorem pop_le : ∀ T, T < 64 → pop T ≤ 6 := by decide +kernel
theorem many_le {a : SA} {np nq hr k : Nat} (h : nq ≤ 6) : many a np nq hr k ≤ 6 := pop_le _ (Nat.lt_of_lt_of_le (bsN_lt _ _) (Nat.pow_le_pow_right (by omega) h))
theorem WF_comes {a : SA} {np nq q x : Nat} (hW : WF a np nq) (hx : x < 20000) : WF (a2 a 4 q x) np nq := by
  obtain ⟨h1, h2, h3, h4, h5⟩ := hW
  refine ⟨h1, h2, fun p hp => ?_, fun i hi => ?_, fun i j hi hj e ne => ?_⟩
  · rw [a2_n (by omega), a2_n (by omega), a2_n (by omega)]; exact h3 p hp
  · rw [a2_n (k' := 3) (by omega), a2_n (k' := 5) (by omega), a2_n (k' := 6) (by omega)]
    have := h4 i hi
    refine ⟨this.1, ?_, this.2.2⟩
    by_cases e : i = q
    · subst e; rw [a2_s]; exact hx
    · rw [a2_n (by omega)]; exact this.2.1
  · rw [a2_n (by omega), a2_n (by omega)] at e
    rw [a2_n (by omega)] at ne
    exact h5 i j hi hj e ne
theorem WF_sight {a : SA} {np nq p x : Nat} (hW : WF a np nq) (hx : x < 8) : WF (a2 a 1 p x) np nq := by
  obtain ⟨h1, h2, h3, h4, h5⟩ := hW
  refine ⟨h1, h2, fun i hi => ?_, fun i hi => ?_, fun i j hi hj e ne => ?_⟩
  · rw [a2_n (by omega), a2_n (k' := 2) (by omega)]
    have := h3 i hi
    refine ⟨this.1, ?_, this.2.2⟩
    by_cases e : i = p
    · subst e; rw [a2_s]; exact hx
    · rw [a2_n (by omega)]; exact this.2.1
  · rw [a2_n (by omega), a2_n (by omega), a2_n (by omega), a2_n (by omega)]; exact h4 i hi
  · rw [a2_n (by omega), a2_n (by omega)] at e
    rw [a2_n (by omega)] at ne
    exact h5 i j hi hj e ne
theorem WF_kind {a : SA} {np nq p x : Nat} (hW : WF a np nq) (hx : x < 5) : WF (a2 a 0 p x) np nq := by
  obtain ⟨h1, h2, h3, h4, h5⟩ := hW
  refine ⟨h1, h2, fun i hi => ?_, fun i hi => ?_, fun i j hi hj e ne => ?_⟩
  · rw [a2_n (k' := 1) (by omega), a2_n (k' := 2) (by omega)]
    have := h3 i hi
    refine ⟨?_, this.2⟩
    by_cases e : i = p
    · subst e; rw [a2_s]; exact hx
    · rw [a2_n (by omega)]; exact this.1
  · rw [a2_n (by omega), a2_n (by omega), a2_n (by omega), a2_n (by omega)]; exact h4 i hi
  · rw [a2_n (by omega), a2_n (by omega)] at e
    rw [a2_n (by omega)] at ne
    exact h5 i j hi hj e ne
theorem WF_dep {a : SA} {np nq p x : Nat} (hW : WF a np nq) (hx : x ≤ 60) : WF (a2 a 2 p x) np nq := by
  refine WF_deep hW (fun k j hk => by rw [a2_n (by omega)]) (fun j hj => ?_)
  have := (hW.2.2.1 j hj).2.2
  by_cases e : j = p
  · subst e; rw [a2_s]; exact hx
  · rw [a2_n (by omega)]; exact this
set_option maxHeartbeats 4000000 in
set_option maxRecDepth 100000 in
theorem c_X6_ahead (l : Launch) (d : Nat) (X : Nat × (Nat → Int32)) (n : Nat) {σ : Wd} {a : SA} {np nq hr dr : Nat} {hs : List SN} {im : IM} {tp : Nat → Nat} {tl : Nat} {ln sz : Nat → Nat} {it : Nat → Nat → Int64} (hC : CA σ a np nq hr dr hs im tp tl ln sz it) (hI : WI a np nq hr dr hs im tp tl ln sz) (p w : Int32) : CN l yX6_ahead cX6_ahead 4 (some .int) ((d + 4)) X n [.ref 0, .int p, .int w] σ (fun v σ' => v = some (.int (s_ahead a np nq hr p w)) ∧ (CA σ' a np nq hr dr hs im tp tl ln sz it ∧ Eqo 0 42 σ σ')) := by
  refine CN.of (by decide) [some (.ref 0), some (.int p), some (.int w), none] (fun _ => Nat.le_of_ble_eq_true rfl) (fun _ => rfl) (fun cx hc => ?_)
  obtain ⟨da, dp, dq, dh, dd, hD⟩ := hC.cd
  obtain ⟨hW, hh, hdr, hwh, hwi, hU, hV⟩ := hI
  have hW1 := hW.1
  have hW2 := hW.2.1
  obtain ⟨σ0, hσ0⟩ : ∃ z, z = σ := ⟨_, rfl⟩
  have hF : Eqo 0 42 σ0 σ := by rw [hσ0]; exact Eqo.rf
  refine R.aload_n (j := 0) (i := 0) hc rfl rfl dX6_ahead_0 ?_
  refine R.get hc gf_X6_10_r dX6_ahead_1 (hD.1) rfl ?_
  refine R.iload_n (j := 1) (i := 1) hc rfl rfl dX6_ahead_4 ?_
  refine R.cVr hc m_X4_hasPuddle lk_X6_85 dX6_ahead_5 (c_X4_hasPuddle l (d + 3) X n hD.2.1 hW _) (hD.2.1.obj) rfl rfl rfl (by omega) ⟨Nat.le_refl _, Nat.le_refl _⟩ (Nat.le_of_ble_eq_true rfl) ?_
  refine R.ifB_eq (tgt := 21) hc dX6_ahead_8 (by decide) (fun q1 => ?_) (fun q1 => ?_)
  · refine R.iconst hc ic_m1 dX6_ahead_21 ?_
    have e9 : (-1) = s_ahead a np nq hr p w := by simp [s_ahead, q1]
    exact R.iret hc rfl dX6_ahead_22 ⟨rfl, congrArg (fun z => some (Value.int z)) e9, hD.ca, (by have h9 := hF; rw [hσ0] at h9; exact h9)⟩
  refine R.iload_n (j := 2) (i := 2) hc rfl rfl dX6_ahead_11 ?_
  refine R.iconst hc ic_0 dX6_ahead_12 ?_
  refine R.bipush hc bp_40 dX6_ahead_13 ?_
  refine R.cSr hc m_X6_within lk_X6_64 dX6_ahead_15 (c_X6_within l (d + 3) X n _ _ _) rfl rfl (by omega) ⟨Nat.le_refl _, Nat.le_refl _⟩ (Nat.le_of_ble_eq_true rfl) ?_
  refine R.ifB_ne (tgt := 23) hc dX6_ahead_18 (by decide) (fun q2 => ?_) (fun q2 => ?_)
  rotate_left
  · refine R.iconst hc ic_m1 dX6_ahead_21 ?_
    have e9 : (-1) = s_ahead a np nq hr p w := by simp [s_ahead, q2]
    exact R.iret hc rfl dX6_ahead_22 ⟨rfl, congrArg (fun z => some (Value.int z)) e9, hD.ca, (by have h9 := hF; rw [hσ0] at h9; exact h9)⟩
  obtain ⟨i1, rfl, g1, t1⟩ := inI_tN (by omega) q1
  obtain ⟨i2, rfl, _, g2, t2⟩ := inR_of (by decide) (by decide) q2
  have hA : s_ahead a np nq hr (nI i1) (nI i2) = nI ((hoursN a np nq hr i2) 2 i1) := by simp [s_ahead, q1, q2, t1, t2]
  rw [hA] at hc
  refine R.aload_n (j := 0) (i := 0) hc rfl rfl dX6_ahead_23 ?_
  refine R.get hc gf_X6_23_r dX6_ahead_24 (hD.1) rfl ?_
  refine R.aload_n (j := 0) (i := 0) hc rfl rfl dX6_ahead_27 ?_
  refine R.get hc gf_X6_10_r dX6_ahead_28 (hD.1) rfl ?_
  refine R.cVu hc m_X4_copyFrom lk_X6_140 dX6_ahead_31 (c_X4_copyFrom l (d + 2) X n hD.2.2.2.1 hD.2.1 hW1 hW2 (by omega)) (hD.2.2.2.1.obj) rfl rfl rfl (by omega) ⟨Nat.le_refl _, Nat.le_refl _⟩ (Nat.le_of_ble_eq_true rfl) (fun σ hX => ?_)
  have hD := hD.w hX.1 hX.2
  have hF := hF.tr (hX.2.wid (by omega))
  refine R.iconst hc ic_0 dX6_ahead_34 ?_
  refine R.istn3 hc dX6_ahead_35 (by decide) rfl ?_
  refine rl_down (P := fun k => ∀ σ1, CD σ1 (hoursN a np nq hr k) np nq (hr + k) dr a np nq hr dr hs im tp tl ln sz it → Eqo 0 42 σ0 σ1 → R cx 0 0 n σ1 36 [some (.ref 0), some (.int (nI i1)), some (.int (nI i2)), some (.int (nI k))] []) i2 (fun σ hD hF => ?_) (fun k hk ih σ hD hF => ?_) 0 (Nat.zero_le _) σ hD hF
  · refine R.iload_n (j := 3) (i := 3) hc rfl rfl dX6_ahead_36 ?_
    refine R.iload_n (j := 2) (i := 2) hc rfl rfl dX6_ahead_37 ?_
    refine R.icmpN_ge (tgt := 54) hc dX6_ahead_38 (by decide) (by omega) (by omega) (fun _ => ?_) (fun q => absurd (Nat.le_refl _) q)
    refine R.aload_n (j := 0) (i := 0) hc rfl rfl dX6_ahead_54 ?_
    refine R.get hc gf_X6_23_r dX6_ahead_55 (hD.1) rfl ?_
    refine R.get hc gf_X6_95 dX6_ahead_58 (hD.2.2.2.1.obj) rfl ?_
    refine R.iload_n (j := 1) (i := 1) hc rfl rfl dX6_ahead_61 ?_
    refine R.ialdE hc dX6_ahead_62 (hD.2.2.2.1.r2 (by omega)) (by omega) (by decide) ?_
    exact R.iret hc rfl dX6_ahead_63 ⟨rfl, rfl, hD.ca, (by have h9 := hF; rw [hσ0] at h9; exact h9)⟩
  · refine R.iload_n (j := 3) (i := 3) hc rfl rfl dX6_ahead_36 ?_
    refine R.iload_n (j := 2) (i := 2) hc rfl rfl dX6_ahead_37 ?_
    refine R.icmpN_ge (tgt := 54) hc dX6_ahead_38 (by decide) (by omega) (by omega) (fun q => absurd q (by omega)) (fun _ => ?_)
    refine R.aload_n (j := 0) (i := 0) hc rfl rfl dX6_ahead_41 ?_
    refine R.get hc gf_X6_23_r dX6_ahead_42 (hD.1) rfl ?_
    refine R.cVu hc m_X4_passHour lk_X6_189 dX6_ahead_45 (c_X4_passHour l d X n hD.2.2.2.1 (WF_hoursN hW k) (by omega)) (hD.2.2.2.1.obj) rfl rfl rfl (by omega) ⟨Nat.le_refl _, Nat.le_refl _⟩ (Nat.le_of_ble_eq_true rfl) (fun σ hX => ?_)
    have hD := hD.w hX.1 hX.2
    have hF := hF.tr (hX.2.wid (by omega))
    refine R.iinc3 hc dX6_ahead_48 (iiN1 _) (by decide) rfl ?_
    refine R.goto (tgt := 36) hc dX6_ahead_51 (by decide) ?_
    exact ih σ hD hF
set_option maxHeartbeats 4000000 in
set_option maxRecDepth 100000 in
theorem c_X6_claims (l : Launch) (d : Nat) (X : Nat × (Nat → Int32)) (n : Nat) {σ : Wd} {a : SA} {np nq hr dr : Nat} {hs : List SN} {im : IM} {tp : Nat → Nat} {tl : Nat} {ln sz : Nat → Nat} {it : Nat → Nat → Int64} (hC : CA σ a np nq hr dr hs im tp tl ln sz it) (hI : WI a np nq hr dr hs im tp tl ln sz) (p w : Int32) : CN l yX6_claims cX6_claims 3 (some .int) ((d + 5)) X n [.ref 0, .int p, .int w] σ (fun v σ' => v = some (.int (s_claims a np nq hr p w)) ∧ (CA σ' a np nq hr dr hs im tp tl ln sz it ∧ Eqo 0 42 σ σ')) := by
  refine CN.of (by decide) [some (.ref 0), some (.int p), some (.int w)] (fun _ => Nat.le_of_ble_eq_true rfl) (fun _ => rfl) (fun cx hc => ?_)
  obtain ⟨da, dp, dq, dh, dd, hD⟩ := hC.cd
  obtain ⟨hW, hh, hdr, hwh, hwi, hU, hV⟩ := hI
  have hW1 := hW.1
  have hW2 := hW.2.1
  have hF : Eqo 0 42 σ σ := Eqo.rf
  refine R.aload_n (j := 0) (i := 0) hc rfl rfl dX6_claims_0 ?_
  refine R.get hc gf_X6_10_r dX6_claims_1 (hD.1) rfl ?_
  refine R.iload_n (j := 1) (i := 1) hc rfl rfl dX6_claims_4 ?_
  refine R.cVr hc m_X4_hasPerson lk_X6_110 dX6_claims_5 (c_X4_hasPerson l (d + 4) X n hD.2.1 hW _) (hD.2.1.obj) rfl rfl rfl (by omega) ⟨Nat.le_refl _, Nat.le_refl _⟩ (Nat.le_of_ble_eq_true rfl) ?_
  refine R.ifB_eq (tgt := 21) hc dX6_claims_8 (by decide) (fun q1 => ?_) (fun q1 => ?_)
  · refine R.iconst hc ic_m1 dX6_claims_21 ?_
    have e9 : (-1) = s_claims a np nq hr p w := by simp [s_claims, q1]
    exact R.iret hc rfl dX6_claims_22 ⟨rfl, congrArg (fun z => some (Value.int z)) e9, hD.ca, hF⟩
  refine R.iload_n (j := 2) (i := 2) hc rfl rfl dX6_claims_11 ?_
  refine R.iconst hc ic_0 dX6_claims_12 ?_
  refine R.bipush hc bp_40 dX6_claims_13 ?_
  refine R.cSr hc m_X6_within lk_X6_64 dX6_claims_15 (c_X6_within l (d + 4) X n _ _ _) rfl rfl (by omega) ⟨Nat.le_refl _, Nat.le_refl _⟩ (Nat.le_of_ble_eq_true rfl) ?_
  refine R.ifB_ne (tgt := 23) hc dX6_claims_18 (by decide) (fun q2 => ?_) (fun q2 => ?_)
  rotate_left
  · refine R.iconst hc ic_m1 dX6_claims_21 ?_
    have e9 : (-1) = s_claims a np nq hr p w := by simp [s_claims, q2]
    exact R.iret hc rfl dX6_claims_22 ⟨rfl, congrArg (fun z => some (Value.int z)) e9, hD.ca, hF⟩
  obtain ⟨i1, rfl, g1, t1⟩ := inI_tN (by omega) q1
  obtain ⟨i2, rfl, _, g2, t2⟩ := inR_of (by decide) (by decide) q2
  have hA : s_claims a np nq hr (nI i1) (nI i2) = cI ((hoursN a np nq hr i2) 6 i1) := by simp [s_claims, q1, q2, t1, t2]
  rw [hA] at hc
  refine R.aload_n (j := 0) (i := 0) hc rfl rfl dX6_claims_23 ?_
  refine R.get hc gf_X6_23_r dX6_claims_24 (hD.1) rfl ?_
  refine R.aload_n (j := 0) (i := 0) hc rfl rfl dX6_claims_27 ?_
  refine R.get hc gf_X6_10_r dX6_claims_28 (hD.1) rfl ?_
  refine R.cVu hc m_X4_copyFrom lk_X6_140 dX6_claims_31 (c_X4_copyFrom l (d + 3) X n hD.2.2.2.1 hD.2.1 hW1 hW2 (by omega)) (hD.2.2.2.1.obj) rfl rfl rfl (by omega) ⟨Nat.le_refl _, Nat.le_refl _⟩ (Nat.le_of_ble_eq_true rfl) (fun σ hX => ?_)
  have hD := hD.w hX.1 hX.2
  have hF := hF.tr (hX.2.wid (by omega))
  refine R.aload_n (j := 0) (i := 0) hc rfl rfl dX6_claims_34 ?_
  refine R.get hc gf_X6_23_r dX6_claims_35 (hD.1) rfl ?_
  refine R.iload_n (j := 2) (i := 2) hc rfl rfl dX6_claims_38 ?_
  refine R.cVi hc m_X4_claimantsBehind lk_X6_192 dX6_claims_39 (c_X4_claimantsBehind l d X n hD.2.2.2.1 hW (by omega) (by omega)) (hD.2.2.2.1.obj) rfl rfl rfl (by omega) ⟨Nat.le_refl _, Nat.le_refl _⟩ (Nat.le_of_ble_eq_true rfl) (fun σ hX => ?_)
  obtain ⟨m9, hs9, he9, hE⟩ := hX
  have hD := hD.w hs9 hE
  have hF := hF.tr (hE.wid (by omega))
  refine R.pop hc rfl dX6_claims_42 ?_
  refine R.aload_n (j := 0) (i := 0) hc rfl rfl dX6_claims_43 ?_
  refine R.get hc gf_X6_23_r dX6_claims_44 (hD.1) rfl ?_
  refine R.get hc gf_X6_122 dX6_claims_47 (hD.2.2.2.1.obj) rfl ?_
  refine R.iload_n (j := 1) (i := 1) hc rfl rfl dX6_claims_50 ?_
  refine R.ialdE hc dX6_claims_51 (hD.2.2.2.1.r6 (by omega)) (by omega) (by decide) ?_
  rw [he9 i1 g1]
  exact R.iret hc rfl dX6_claims_52 ⟨rfl, rfl, hD.ca, hF⟩
set_option maxHeartbeats 4000000 in
set_option maxRecDepth 100000 in
theorem c_X6_then (l : Launch) (d : Nat) (X : Nat × (Nat → Int32)) (n : Nat) {σ : Wd} {a : SA} {np nq hr dr : Nat} {hs : List SN} {im : IM} {tp : Nat → Nat} {tl : Nat} {ln sz : Nat → Nat} {it : Nat → Nat → Int64} (hC : CA σ a np nq hr dr hs im tp tl ln sz it) (hI : WI a np nq hr dr hs im tp tl ln sz) (w : Int32) : CN l yX6_then cX6_then 2 (some .int) ((d + 5)) X n [.ref 0, .int w] σ (fun v σ' => v = some (.int (s_then a np nq hr w)) ∧ (CA σ' a np nq hr dr hs im tp tl ln sz it ∧ Eqo 0 42 σ σ')) := by
  refine CN.of (by decide) [some (.ref 0), some (.int w)] (fun _ => Nat.le_of_ble_eq_true rfl) (fun _ => rfl) (fun cx hc => ?_)
  obtain ⟨da, dp, dq, dh, dd, hD⟩ := hC.cd
  obtain ⟨hW, hh, hdr, hwh, hwi, hU, hV⟩ := hI
  have hW1 := hW.1
  have hW2 := hW.2.1
  have hF : Eqo 0 42 σ σ := Eqo.rf
  refine R.iload_n (j := 1) (i := 1) hc rfl rfl dX6_then_0 ?_
  refine R.iconst hc ic_0 dX6_then_1 ?_
  refine R.bipush hc bp_40 dX6_then_2 ?_
  refine R.cSr hc m_X6_within lk_X6_64 dX6_then_4 (c_X6_within l (d + 4) X n _ _ _) rfl rfl (by omega) ⟨Nat.le_refl _, Nat.le_refl _⟩ (Nat.le_of_ble_eq_true rfl) ?_
  refine R.ifB_ne (tgt := 12) hc dX6_then_7 (by decide) (fun q2 => ?_) (fun q2 => ?_)
  rotate_left
  · refine R.iconst hc ic_m1 dX6_then_10 ?_
    have e9 : (-1) = s_then a np nq hr w := by simp [s_then, q2]
    exact R.iret hc rfl dX6_then_11 ⟨rfl, congrArg (fun z => some (Value.int z)) e9, hD.ca, hF⟩
  obtain ⟨i2, rfl, _, g2, t2⟩ := inR_of (by decide) (by decide) q2
  have hA : s_then a np nq hr (nI i2) = nI (bsN (hasC (hoursN a np nq hr i2)) nq) := by simp [s_then, q2, t2]
  rw [hA] at hc
  refine R.aload_n (j := 0) (i := 0) hc rfl rfl dX6_then_12 ?_
  refine R.get hc gf_X6_23_r dX6_then_13 (hD.1) rfl ?_
  refine R.aload_n (j := 0) (i := 0) hc rfl rfl dX6_then_16 ?_
  refine R.get hc gf_X6_10_r dX6_then_17 (hD.1) rfl ?_
  refine R.cVu hc m_X4_copyFrom lk_X6_140 dX6_then_20 (c_X4_copyFrom l (d + 3) X n hD.2.2.2.1 hD.2.1 hW1 hW2 (by omega)) (hD.2.2.2.1.obj) rfl rfl rfl (by omega) ⟨Nat.le_refl _, Nat.le_refl _⟩ (Nat.le_of_ble_eq_true rfl) (fun σ hX => ?_)
  have hD := hD.w hX.1 hX.2
  have hF := hF.tr (hX.2.wid (by omega))
  refine R.aload_n (j := 0) (i := 0) hc rfl rfl dX6_then_23 ?_
  refine R.get hc gf_X6_23_r dX6_then_24 (hD.1) rfl ?_
  refine R.iload_n (j := 1) (i := 1) hc rfl rfl dX6_then_27 ?_
  refine R.cVi hc m_X4_claimantsBehind lk_X6_192 dX6_then_28 (c_X4_claimantsBehind l d X n hD.2.2.2.1 hW (by omega) (by omega)) (hD.2.2.2.1.obj) rfl rfl rfl (by omega) ⟨Nat.le_refl _, Nat.le_refl _⟩ (Nat.le_of_ble_eq_true rfl) (fun σ hX => ?_)
  obtain ⟨m9, hs9, he9, hE⟩ := hX
  have hD := hD.w hs9 hE
  have hF := hF.tr (hE.wid (by omega))
  exact R.iret hc rfl dX6_then_31 ⟨rfl, rfl, hD.ca, hF⟩
set_option maxHeartbeats 4000000 in
set_option maxRecDepth 100000 in
theorem c_X6_served (l : Launch) (d : Nat) (X : Nat × (Nat → Int32)) (n : Nat) {σ : Wd} {a : SA} {np nq hr dr : Nat} {hs : List SN} {im : IM} {tp : Nat → Nat} {tl : Nat} {ln sz : Nat → Nat} {it : Nat → Nat → Int64} (hC : CA σ a np nq hr dr hs im tp tl ln sz it) (hI : WI a np nq hr dr hs im tp tl ln sz) (p : Int32) : CN l yX6_served cX6_served 3 (some .int) ((d + 4)) X n [.ref 0, .int p] σ (fun v σ' => v = some (.int (s_served a np nq hr p)) ∧ (CA σ' a np nq hr dr hs im tp tl ln sz it ∧ Eqo 0 42 σ σ')) := by
  refine CN.of (by decide) [some (.ref 0), some (.int p), none] (fun _ => Nat.le_of_ble_eq_true rfl) (fun _ => rfl) (fun cx hc => ?_)
  obtain ⟨da, dp, dq, dh, dd, hD⟩ := hC.cd
  obtain ⟨hW, hh, hdr, hwh, hwi, hU, hV⟩ := hI
  have hW1 := hW.1
  have hW2 := hW.2.1
  obtain ⟨σ0, hσ0⟩ : ∃ z, z = σ := ⟨_, rfl⟩
  have hF : Eqo 0 42 σ0 σ := by rw [hσ0]; exact Eqo.rf
  refine R.aload_n (j := 0) (i := 0) hc rfl rfl dX6_served_0 ?_
  refine R.get hc gf_X6_10_r dX6_served_1 (hD.1) rfl ?_
  refine R.iload_n (j := 1) (i := 1) hc rfl rfl dX6_served_4 ?_
  refine R.cVr hc m_X4_hasPerson lk_X6_110 dX6_served_5 (c_X4_hasPerson l (d + 3) X n hD.2.1 hW _) (hD.2.1.obj) rfl rfl rfl (by omega) ⟨Nat.le_refl _, Nat.le_refl _⟩ (Nat.le_of_ble_eq_true rfl) ?_
  refine R.ifB_ne (tgt := 13) hc dX6_served_8 (by decide) (fun q1 => ?_) (fun q1 => ?_)
  rotate_left
  · refine R.iconst hc ic_m1 dX6_served_11 ?_
    have e9 : (-1) = s_served a np nq hr p := by simp [s_served, q1]
    exact R.iret hc rfl dX6_served_12 ⟨rfl, congrArg (fun z => some (Value.int z)) e9, hD.ca, (by have h9 := hF; rw [hσ0] at h9; exact h9)⟩
  obtain ⟨i1, rfl, g1, t1⟩ := inI_tN (by omega) q1
  have hA : s_served a np nq hr (nI i1) = firstF (fun k => hasC (hoursN a np nq hr k) i1) 41 0 := by simp [s_served, q1, t1]
  rw [hA] at hc
  refine R.aload_n (j := 0) (i := 0) hc rfl rfl dX6_served_13 ?_
  refine R.get hc gf_X6_23_r dX6_served_14 (hD.1) rfl ?_
  refine R.aload_n (j := 0) (i := 0) hc rfl rfl dX6_served_17 ?_
  refine R.get hc gf_X6_10_r dX6_served_18 (hD.1) rfl ?_
  refine R.cVu hc m_X4_copyFrom lk_X6_140 dX6_served_21 (c_X4_copyFrom l (d + 2) X n hD.2.2.2.1 hD.2.1 hW1 hW2 (by omega)) (hD.2.2.2.1.obj) rfl rfl rfl (by omega) ⟨Nat.le_refl _, Nat.le_refl _⟩ (Nat.le_of_ble_eq_true rfl) (fun σ hX => ?_)
  have hD := hD.w hX.1 hX.2
  have hF := hF.tr (hX.2.wid (by omega))
  refine R.iconst hc ic_0 dX6_served_24 ?_
  refine R.istn2 hc dX6_served_25 (by decide) rfl ?_
  obtain ⟨ans, hans⟩ : ∃ z, z = firstF (fun k => hasC (hoursN a np nq hr k) i1) 41 0 := ⟨_, rfl⟩
  rw [← hans] at hc
  have key : ∀ j k σ1, k + j = 41 → firstF (fun k => hasC (hoursN a np nq hr k) i1) j k = ans → CD σ1 (hoursN a np nq hr k) np nq (hr + k) dr a np nq hr dr hs im tp tl ln sz it → Eqo 0 42 σ0 σ1 → R cx 0 0 n σ1 26 [some (.ref 0), some (.int (nI i1)), some (.int (nI k))] [] := by
    intro j
    induction j with
    | zero =>
      intro k σ hk e hD hF
      refine R.iload_n (j := 2) (i := 2) hc rfl rfl dX6_served_26 ?_
      refine R.bipush hc bp_40 dX6_served_27 ?_
      refine R.icmpN_gt (tgt := 58) hc dX6_served_29 (by decide) (by omega) (by omega) (fun _ => ?_) (fun z => absurd (by omega) z)
      refine R.bipush hc bp_m4 dX6_served_58 ?_
      rw [firstF] at e
      exact R.iret hc rfl dX6_served_60 ⟨rfl, by rw [e], hD.ca, (by have h9 := hF; rw [hσ0] at h9; exact h9)⟩
    | succ j ih =>
      intro k σ hk e hD hF
      rw [firstF] at e
      refine R.iload_n (j := 2) (i := 2) hc rfl rfl dX6_served_26 ?_
      refine R.bipush hc bp_40 dX6_served_27 ?_
      refine R.icmpN_gt (tgt := 58) hc dX6_served_29 (by decide) (by omega) (by omega) (fun z => absurd z (by omega)) (fun _ => ?_)
      refine R.aload_n (j := 0) (i := 0) hc rfl rfl dX6_served_32 ?_
      refine R.get hc gf_X6_23_r dX6_served_33 (hD.1) rfl ?_
      refine R.iload_n (j := 1) (i := 1) hc rfl rfl dX6_served_36 ?_
      refine R.cVr hc m_X4_hasClaimed lk_X6_182 dX6_served_37 (c_X4_hasClaimed l (d + 3) X n hD.2.2.2.1 (WF_hoursN hW k) (by omega)) (hD.2.2.2.1.obj) rfl rfl rfl (by omega) ⟨Nat.le_refl _, Nat.le_refl _⟩ (Nat.le_of_ble_eq_true rfl) ?_
      refine R.ifB_eq (tgt := 45) hc dX6_served_40 (by decide) (fun z => ?_) (fun z => ?_)
      · rw [if_neg (by rw [z]; decide)] at e
        refine R.aload_n (j := 0) (i := 0) hc rfl rfl dX6_served_45 ?_
        refine R.get hc gf_X6_23_r dX6_served_46 (hD.1) rfl ?_
        refine R.cVu hc m_X4_passHour lk_X6_189 dX6_served_49 (c_X4_passHour l d X n hD.2.2.2.1 (WF_hoursN hW k) (by omega)) (hD.2.2.2.1.obj) rfl rfl rfl (by omega) ⟨Nat.le_refl _, Nat.le_refl _⟩ (Nat.le_of_ble_eq_true rfl) (fun σ hX => ?_)
        have hD := hD.w hX.1 hX.2
        have hF := hF.tr (hX.2.wid (by omega))
        refine R.iinc2 hc dX6_served_52 (iiN1 _) (by decide) rfl ?_
        refine R.goto (tgt := 26) hc dX6_served_55 (by decide) ?_
        exact ih (k + 1) σ (by omega) e hD hF
      · rw [if_pos z] at e
        refine R.iload_n (j := 2) (i := 2) hc rfl rfl dX6_served_43 ?_
        exact R.iret hc rfl dX6_served_44 ⟨rfl, by rw [e], hD.ca, (by have h9 := hF; rw [hσ0] at h9; exact h9)⟩
  exact key 41 0 σ rfl hans.symm hD hF
set_option maxHeartbeats 4000000 in
set_option maxRecDepth 100000 in
theorem c_X6_dries (l : Launch) (d : Nat) (X : Nat × (Nat → Int32)) (n : Nat) {σ : Wd} {a : SA} {np nq hr dr : Nat} {hs : List SN} {im : IM} {tp : Nat → Nat} {tl : Nat} {ln sz : Nat → Nat} {it : Nat → Nat → Int64} (hC : CA σ a np nq hr dr hs im tp tl ln sz it) (hI : WI a np nq hr dr hs im tp tl ln sz) (p : Int32) : CN l yX6_dries cX6_dries 3 (some .int) ((d + 4)) X n [.ref 0, .int p] σ (fun v σ' => v = some (.int (s_dries a np nq hr p)) ∧ (CA σ' a np nq hr dr hs im tp tl ln sz it ∧ Eqo 0 42 σ σ')) := by
  refine CN.of (by decide) [some (.ref 0), some (.int p), none] (fun _ => Nat.le_of_ble_eq_true rfl) (fun _ => rfl) (fun cx hc => ?_)
  obtain ⟨da, dp, dq, dh, dd, hD⟩ := hC.cd
  obtain ⟨hW, hh, hdr, hwh, hwi, hU, hV⟩ := hI
  have hW1 := hW.1
  have hW2 := hW.2.1
  obtain ⟨σ0, hσ0⟩ : ∃ z, z = σ := ⟨_, rfl⟩
  have hF : Eqo 0 42 σ0 σ := by rw [hσ0]; exact Eqo.rf
  refine R.aload_n (j := 0) (i := 0) hc rfl rfl dX6_dries_0 ?_
  refine R.get hc gf_X6_10_r dX6_dries_1 (hD.1) rfl ?_
  refine R.iload_n (j := 1) (i := 1) hc rfl rfl dX6_dries_4 ?_
  refine R.cVr hc m_X4_hasPuddle lk_X6_85 dX6_dries_5 (c_X4_hasPuddle l (d + 3) X n hD.2.1 hW _) (hD.2.1.obj) rfl rfl rfl (by omega) ⟨Nat.le_refl _, Nat.le_refl _⟩ (Nat.le_of_ble_eq_true rfl) ?_
  refine R.ifB_ne (tgt := 13) hc dX6_dries_8 (by decide) (fun q1 => ?_) (fun q1 => ?_)
  rotate_left
  · refine R.iconst hc ic_m1 dX6_dries_11 ?_
    have e9 : (-1) = s_dries a np nq hr p := by simp [s_dries, q1]
    exact R.iret hc rfl dX6_dries_12 ⟨rfl, congrArg (fun z => some (Value.int z)) e9, hD.ca, (by have h9 := hF; rw [hσ0] at h9; exact h9)⟩
  obtain ⟨i1, rfl, g1, t1⟩ := inI_tN (by omega) q1
  have hA : s_dries a np nq hr (nI i1) = firstF (fun k => dryB (hoursN a np nq hr k) i1) 41 0 := by simp [s_dries, q1, t1]
  rw [hA] at hc
  refine R.aload_n (j := 0) (i := 0) hc rfl rfl dX6_dries_13 ?_
  refine R.get hc gf_X6_23_r dX6_dries_14 (hD.1) rfl ?_
  refine R.aload_n (j := 0) (i := 0) hc rfl rfl dX6_dries_17 ?_
  refine R.get hc gf_X6_10_r dX6_dries_18 (hD.1) rfl ?_
  refine R.cVu hc m_X4_copyFrom lk_X6_140 dX6_dries_21 (c_X4_copyFrom l (d + 2) X n hD.2.2.2.1 hD.2.1 hW1 hW2 (by omega)) (hD.2.2.2.1.obj) rfl rfl rfl (by omega) ⟨Nat.le_refl _, Nat.le_refl _⟩ (Nat.le_of_ble_eq_true rfl) (fun σ hX => ?_)
  have hD := hD.w hX.1 hX.2
  have hF := hF.tr (hX.2.wid (by omega))
  refine R.iconst hc ic_0 dX6_dries_24 ?_
  refine R.istn2 hc dX6_dries_25 (by decide) rfl ?_
  obtain ⟨ans, hans⟩ : ∃ z, z = firstF (fun k => dryB (hoursN a np nq hr k) i1) 41 0 := ⟨_, rfl⟩
  rw [← hans] at hc
  have key : ∀ j k σ1, k + j = 41 → firstF (fun k => dryB (hoursN a np nq hr k) i1) j k = ans → CD σ1 (hoursN a np nq hr k) np nq (hr + k) dr a np nq hr dr hs im tp tl ln sz it → Eqo 0 42 σ0 σ1 → R cx 0 0 n σ1 26 [some (.ref 0), some (.int (nI i1)), some (.int (nI k))] [] := by
    intro j
    induction j with
    | zero =>
      intro k σ hk e hD hF
      refine R.iload_n (j := 2) (i := 2) hc rfl rfl dX6_dries_26 ?_
      refine R.bipush hc bp_40 dX6_dries_27 ?_
      refine R.icmpN_gt (tgt := 58) hc dX6_dries_29 (by decide) (by omega) (by omega) (fun _ => ?_) (fun z => absurd (by omega) z)
      refine R.bipush hc bp_m4 dX6_dries_58 ?_
      rw [firstF] at e
      exact R.iret hc rfl dX6_dries_60 ⟨rfl, by rw [e], hD.ca, (by have h9 := hF; rw [hσ0] at h9; exact h9)⟩
    | succ j ih =>
      intro k σ hk e hD hF
      rw [firstF] at e
      refine R.iload_n (j := 2) (i := 2) hc rfl rfl dX6_dries_26 ?_
      refine R.bipush hc bp_40 dX6_dries_27 ?_
      refine R.icmpN_gt (tgt := 58) hc dX6_dries_29 (by decide) (by omega) (by omega) (fun z => absurd z (by omega)) (fun _ => ?_)
      refine R.aload_n (j := 0) (i := 0) hc rfl rfl dX6_dries_32 ?_
      refine R.get hc gf_X6_23_r dX6_dries_33 (hD.1) rfl ?_
      refine R.iload_n (j := 1) (i := 1) hc rfl rfl dX6_dries_36 ?_
      refine R.cVr hc m_X4_isDry lk_X6_176 dX6_dries_37 (c_X4_isDry l (d + 3) X n hD.2.2.2.1 (WF_hoursN hW k) (by omega)) (hD.2.2.2.1.obj) rfl rfl rfl (by omega) ⟨Nat.le_refl _, Nat.le_refl _⟩ (Nat.le_of_ble_eq_true rfl) ?_
      refine R.ifB_eq (tgt := 45) hc dX6_dries_40 (by decide) (fun z => ?_) (fun z => ?_)
      · rw [if_neg (by rw [z]; decide)] at e
        refine R.aload_n (j := 0) (i := 0) hc rfl rfl dX6_dries_45 ?_
        refine R.get hc gf_X6_23_r dX6_dries_46 (hD.1) rfl ?_
        refine R.cVu hc m_X4_passHour lk_X6_189 dX6_dries_49 (c_X4_passHour l d X n hD.2.2.2.1 (WF_hoursN hW k) (by omega)) (hD.2.2.2.1.obj) rfl rfl rfl (by omega) ⟨Nat.le_refl _, Nat.le_refl _⟩ (Nat.le_of_ble_eq_true rfl) (fun σ hX => ?_)
        have hD := hD.w hX.1 hX.2
        have hF := hF.tr (hX.2.wid (by omega))
        refine R.iinc2 hc dX6_dries_52 (iiN1 _) (by decide) rfl ?_
        refine R.goto (tgt := 26) hc dX6_dries_55 (by decide) ?_
        exact ih (k + 1) σ (by omega) e hD hF
      · rw [if_pos z] at e
        refine R.iload_n (j := 2) (i := 2) hc rfl rfl dX6_dries_43 ?_
        exact R.iret hc rfl dX6_dries_44 ⟨rfl, by rw [e], hD.ca, (by have h9 := hF; rw [hσ0] at h9; exact h9)⟩
  exact key 41 0 σ rfl hans.symm hD hF
set_option maxHeartbeats 4000000 in
set_option maxRecDepth 100000 in
theorem c_X6_match (l : Launch) (d : Nat) (X : Nat × (Nat → Int32)) (n : Nat) {σ : Wd} {a : SA} {np nq hr dr : Nat} {hs : List SN} {im : IM} {tp : Nat → Nat} {tl : Nat} {ln sz : Nat → Nat} {it : Nat → Nat → Int64} (hC : CA σ a np nq hr dr hs im tp tl ln sz it) (hI : WI a np nq hr dr hs im tp tl ln sz) : CN l yX6_match cX6_match 1 (some .int) ((d + 10)) X n [.ref 0] σ (fun v σ' => v = some (.int (nI (matchN (fitG a np nq) nq))) ∧ (CA σ' a np nq hr dr hs im tp tl ln sz it ∧ Eqo 0 42 σ σ')) := by
  refine CN.of (by decide) [some (.ref 0)] (fun _ => Nat.le_of_ble_eq_true rfl) (fun _ => rfl) (fun cx hc => ?_)
  obtain ⟨c0, c1, c2, ⟨xa, xp, xq, xh, xd, c3⟩, c4, ⟨xl, c5⟩, c6, ⟨xf, xg, xT, c7⟩, ⟨yd, yc, yb, yn, ys, yl, ym, c8⟩⟩ := hC
  obtain ⟨hW, hh, hdr, hwh, hwi, hU, hV⟩ := hI
  have hW1 := hW.1
  have hW2 := hW.2.1
  have hF : Eqo 0 42 σ σ := Eqo.rf
  refine R.aload_n (j := 0) (i := 0) hc rfl rfl dX6_match_0 ?_
  refine R.get hc gf_X6_53_r dX6_match_1 (c0) rfl ?_
  refine R.aload_n (j := 0) (i := 0) hc rfl rfl dX6_match_4 ?_
  refine R.get hc gf_X6_10_r dX6_match_5 (c0) rfl ?_
  refine R.cVi hc m_X1_greatest lk_X6_195 dX6_match_8 (c_X1_greatest l d X n c7 c1 hW (by omega)) (c7.1) rfl rfl rfl (by omega) ⟨Nat.le_refl _, Nat.le_refl _⟩ (Nat.le_of_ble_eq_true rfl) (fun σ hX => ?_)
  obtain ⟨xf, xg, xT, c7, hE⟩ := hX
  have c0 := (hE 0 (by omega)).trans c0
  have c1 := SX.ag c1 (fun j h1 h2 => hE j (by omega))
  have c2 := Hi.ag c2 (fun j h1 h2 => hE j (by omega))
  have c3 := SX.ag c3 (fun j h1 h2 => hE j (by omega))
  have c4 := Im.ag c4 (fun j h1 h2 => hE j (by omega))
  have c5 := Tp.ag c5 (fun j h1 h2 => hE j (by omega))
  have c6 := Sh.ag c6 (fun j h1 h2 => hE j (by omega))
  have c8 := Od.ag c8 (fun j h1 h2 => hE j (by omega))
  have hF : Eqo 0 42 _ σ := fun j hj => (hE j (by omega)).trans (hF j hj)
  exact R.iret hc rfl dX6_match_11 ⟨rfl, rfl, ⟨c0, c1, c2, ⟨_, _, _, _, _, c3⟩, c4, ⟨_, c5⟩, c6, ⟨_, _, _, c7⟩, ⟨_, _, _, _, _, _, _, c8⟩⟩, hF⟩
theorem lnI_dec : ∀ h, h < 100 → nI h + Int32.ofInt (-1) = lnI h := by decide +kernel
set_option maxHeartbeats 4000000 in
set_option maxRecDepth 100000 in
theorem c_X6_latest (l : Launch) (d : Nat) (X : Nat × (Nat → Int32)) (n : Nat) {σ : Wd} {a : SA} {np nq hr dr : Nat} {hs : List SN} {im : IM} {tp : Nat → Nat} {tl : Nat} {ln sz : Nat → Nat} {it : Nat → Nat → Int64} (hC : CA σ a np nq hr dr hs im tp tl ln sz it) (hI : WI a np nq hr dr hs im tp tl ln sz) (p : Int32) : CN l yX6_latest cX6_latest 3 (some .int) ((d + 5)) X n [.ref 0, .int p] σ (fun v σ' => v = some (.int (s_latest a np nq hr p)) ∧ (CA σ' a np nq hr dr hs im tp tl ln sz it ∧ Eqo 0 42 σ σ')) := by
  refine CN.of (by decide) [some (.ref 0), some (.int p), none] (fun _ => Nat.le_of_ble_eq_true rfl) (fun _ => rfl) (fun cx hc => ?_)
  obtain ⟨da, dp, dq, dh, dd, hD⟩ := hC.cd
  obtain ⟨hW, hh, hdr, hwh, hwi, hU, hV⟩ := hI
  have hW1 := hW.1
  have hW2 := hW.2.1
  have hF : Eqo 0 42 σ σ := Eqo.rf
  refine R.aload_n (j := 0) (i := 0) hc rfl rfl dX6_latest_0 ?_
  refine R.get hc gf_X6_10_r dX6_latest_1 (hD.1) rfl ?_
  refine R.iload_n (j := 1) (i := 1) hc rfl rfl dX6_latest_4 ?_
  refine R.cVr hc m_X4_hasPerson lk_X6_110 dX6_latest_5 (c_X4_hasPerson l (d + 4) X n hD.2.1 hW _) (hD.2.1.obj) rfl rfl rfl (by omega) ⟨Nat.le_refl _, Nat.le_refl _⟩ (Nat.le_of_ble_eq_true rfl) ?_
  refine R.ifB_ne (tgt := 13) hc dX6_latest_8 (by decide) (fun q1 => ?_) (fun q1 => ?_)
  rotate_left
  · refine R.iconst hc ic_m1 dX6_latest_11 ?_
    have e9 : (-1) = s_latest a np nq hr p := by simp [s_latest, q1]
    exact R.iret hc rfl dX6_latest_12 ⟨rfl, congrArg (fun z => some (Value.int z)) e9, hD.ca, hF⟩
  obtain ⟨i1, rfl, g1, t1⟩ := inI_tN (by omega) q1
  have hA : s_latest a np nq hr (nI i1) = downF (fun h => hasC (hoursN (a2 a 4 i1 h) np nq hr 40) i1) 21 := by simp [s_latest, q1, t1]
  rw [hA] at hc
  obtain ⟨ans, hans⟩ : ∃ z, z = downF (fun h => hasC (hoursN (a2 a 4 i1 h) np nq hr 40) i1) 21 := ⟨_, rfl⟩
  rw [← hans] at hc
  have key : ∀ h, h ≤ 21 → downF (fun h => hasC (hoursN (a2 a 4 i1 h) np nq hr 40) i1) h = ans → ∀ σ1, CA σ1 a np nq hr dr hs im tp tl ln sz it → Eqo 0 42 σ σ1 → R cx 0 0 n σ1 16 [some (.ref 0), some (.int (nI i1)), some (.int (lnI h))] [] := by
    intro h
    induction h with
    | zero =>
      intro hh e σ hC hF
      refine R.iload_n (j := 2) (i := 2) hc rfl rfl dX6_latest_16 ?_
      refine R.if_lt (tgt := 70) hc dX6_latest_17 (by decide) (fun _ => ?_) (fun z => absurd (by decide) z)
      refine R.bipush hc bp_m4 dX6_latest_70 ?_
      rw [downF] at e
      exact R.iret hc rfl dX6_latest_72 ⟨rfl, by rw [e], hC, hF⟩
    | succ h ih =>
      intro hh e σ hC hF
      rw [downF] at e
      simp only [lnI]
      obtain ⟨da, dp, dq, dh, dd, hD⟩ := hC.cd
      refine R.iload_n (j := 2) (i := 2) hc rfl rfl dX6_latest_16 ?_
      refine R.ifN_lt (tgt := 70) hc dX6_latest_17 (by decide) (by omega) ?_
      refine R.aload_n (j := 0) (i := 0) hc rfl rfl dX6_latest_20 ?_
      refine R.get hc gf_X6_23_r dX6_latest_21 (hD.1) rfl ?_
      refine R.aload_n (j := 0) (i := 0) hc rfl rfl dX6_latest_24 ?_
      refine R.get hc gf_X6_10_r dX6_latest_25 (hD.1) rfl ?_
      refine R.cVu hc m_X4_copyFrom lk_X6_140 dX6_latest_28 (c_X4_copyFrom l (d + 3) X n hD.2.2.2.1 hD.2.1 hW1 hW2 (by omega)) (hD.2.2.2.1.obj) rfl rfl rfl (by omega) ⟨Nat.le_refl _, Nat.le_refl _⟩ (Nat.le_of_ble_eq_true rfl) (fun σ hX => ?_)
      have hD := hD.w hX.1 hX.2
      have hF := hF.tr (hX.2.wid (by omega))
      refine R.aload_n (j := 0) (i := 0) hc rfl rfl dX6_latest_31 ?_
      refine R.get hc gf_X6_23_r dX6_latest_32 (hD.1) rfl ?_
      refine R.get hc gf_X6_116 dX6_latest_35 (hD.2.2.2.1.obj) rfl ?_
      refine R.iload_n (j := 1) (i := 1) hc rfl rfl dX6_latest_38 ?_
      refine R.iload_n (j := 2) (i := 2) hc rfl rfl dX6_latest_39 ?_
      refine R.iastW hc dX6_latest_40 (hD.2.2.2.1.w4 _ _) (by omega) (by decide) (fun σ hX => ?_)
      have hD := hD.w hX.1 hX.2
      have hF := hF.tr (hX.2.wid (by omega))
      refine R.aload_n (j := 0) (i := 0) hc rfl rfl dX6_latest_41 ?_
      refine R.get hc gf_X6_23_r dX6_latest_42 (hD.1) rfl ?_
      refine R.bipush hc bp_40 dX6_latest_45 ?_
      refine R.cVi hc m_X4_claimantsBehind lk_X6_192 dX6_latest_47 (c_X4_claimantsBehind l d X n hD.2.2.2.1 (WF_comes hW (by omega)) (by omega) (by omega)) (hD.2.2.2.1.obj) rfl rfl rfl (by omega) ⟨Nat.le_refl _, Nat.le_refl _⟩ (Nat.le_of_ble_eq_true rfl) (fun σ hX => ?_)
      obtain ⟨m9, hs9, he9, hE⟩ := hX
      have hD := hD.w hs9 hE
      have hF := hF.tr (hE.wid (by omega))
      refine R.pop hc rfl dX6_latest_50 ?_
      refine R.aload_n (j := 0) (i := 0) hc rfl rfl dX6_latest_51 ?_
      refine R.get hc gf_X6_23_r dX6_latest_52 (hD.1) rfl ?_
      refine R.iload_n (j := 1) (i := 1) hc rfl rfl dX6_latest_55 ?_
      refine R.cVr hc m_X4_hasClaimed lk_X6_182 dX6_latest_56 (c_X4_hasClaimed l (d + 4) X n hD.2.2.2.1 (WF_hoursN (WF_comes hW (by omega)) m9) (by omega)) (hD.2.2.2.1.obj) rfl rfl rfl (by omega) ⟨Nat.le_refl _, Nat.le_refl _⟩ (Nat.le_of_ble_eq_true rfl) ?_
      refine R.ifB_eq (tgt := 64) hc dX6_latest_59 (by decide) (fun z => ?_) (fun z => ?_)
      · have z : hasC (hoursN (a2 a 4 i1 h) np nq hr 40) i1 = false := by rw [← z]; unfold hasC; rw [he9 i1 g1]
        rw [if_neg (by rw [z]; decide)] at e
        refine R.iinc2 hc dX6_latest_64 (lnI_dec h (by omega)) (by decide) rfl ?_
        refine R.goto (tgt := 16) hc dX6_latest_67 (by decide) ?_
        exact ih (by omega) e σ hD.ca hF
      · have z : hasC (hoursN (a2 a 4 i1 h) np nq hr 40) i1 = true := by rw [← z]; unfold hasC; rw [he9 i1 g1]
        rw [if_pos z] at e
        refine R.iload_n (j := 2) (i := 2) hc rfl rfl dX6_latest_62 ?_
        exact R.iret hc rfl dX6_latest_63 ⟨rfl, by rw [e], hD.ca, hF⟩
  refine R.bipush hc bp_20 dX6_latest_13 ?_
  refine R.istn2 hc dX6_latest_15 (by decide) rfl ?_
  exact key 21 (by omega) hans.symm σ hC hF
set_option maxHeartbeats 4000000 in
set_option maxRecDepth 100000 in
theorem c_X6_wet (l : Launch) (d : Nat) (X : Nat × (Nat → Int32)) (n : Nat) {σ : Wd} {a : SA} {np nq hr dr : Nat} {hs : List SN} {im : IM} {tp : Nat → Nat} {tl : Nat} {ln sz : Nat → Nat} {it : Nat → Nat → Int64} (hC : CA σ a np nq hr dr hs im tp tl ln sz it) (hI : WI a np nq hr dr hs im tp tl ln sz) (w : Int32) : CN l yX6_wet cX6_wet 3 (some .int) ((d + 5)) X n [.ref 0, .int w] σ (fun v σ' => v = some (.int (s_wet a np nq hr w)) ∧ (CA σ' a np nq hr dr hs im tp tl ln sz it ∧ Eqo 0 42 σ σ')) := by
  refine CN.of (by decide) [some (.ref 0), some (.int w), none] (fun _ => Nat.le_of_ble_eq_true rfl) (fun _ => rfl) (fun cx hc => ?_)
  obtain ⟨da, dp, dq, dh, dd, hD⟩ := hC.cd
  obtain ⟨hW, hh, hdr, hwh, hwi, hU, hV⟩ := hI
  have hW1 := hW.1
  have hW2 := hW.2.1
  have hF : Eqo 0 42 σ σ := Eqo.rf
  refine R.iload_n (j := 1) (i := 1) hc rfl rfl dX6_wet_0 ?_
  refine R.iconst hc ic_1 dX6_wet_1 ?_
  refine R.bipush hc bp_30 dX6_wet_2 ?_
  refine R.cSr hc m_X6_within lk_X6_64 dX6_wet_4 (c_X6_within l (d + 4) X n _ _ _) rfl rfl (by omega) ⟨Nat.le_refl _, Nat.le_refl _⟩ (Nat.le_of_ble_eq_true rfl) ?_
  refine R.ifB_ne (tgt := 12) hc dX6_wet_7 (by decide) (fun q1 => ?_) (fun q1 => ?_)
  rotate_left
  · refine R.iconst hc ic_m1 dX6_wet_10 ?_
    have e9 : (-1) = s_wet a np nq hr w := by simp [s_wet, q1]
    exact R.iret hc rfl dX6_wet_11 ⟨rfl, congrArg (fun z => some (Value.int z)) e9, hD.ca, hF⟩
  obtain ⟨i1, rfl, _, g1, t1⟩ := inR_of (by decide) (by decide) q1
  have hA : s_wet a np nq hr (nI i1) = firstF (fun v => many (rainK a v np) np nq hr i1 == nq) 61 0 := by simp [s_wet, q1, t1]
  rw [hA] at hc
  obtain ⟨ans, hans⟩ : ∃ z, z = firstF (fun v => many (rainK a v np) np nq hr i1 == nq) 61 0 := ⟨_, rfl⟩
  rw [← hans] at hc
  have key : ∀ j k σ1, k + j = 61 → firstF (fun v => many (rainK a v np) np nq hr i1 == nq) j k = ans → CA σ1 a np nq hr dr hs im tp tl ln sz it → Eqo 0 42 σ σ1 → R cx 0 0 n σ1 14 [some (.ref 0), some (.int (nI i1)), some (.int (nI k))] [] := by
    intro j
    induction j with
    | zero =>
      intro k σ hk e hC hF
      refine R.iload_n (j := 2) (i := 2) hc rfl rfl dX6_wet_14 ?_
      refine R.bipush hc bp_60 dX6_wet_15 ?_
      refine R.icmpN_gt (tgt := 68) hc dX6_wet_17 (by decide) (by omega) (by omega) (fun _ => ?_) (fun z => absurd (by omega) z)
      refine R.bipush hc bp_m4 dX6_wet_68 ?_
      rw [firstF] at e
      exact R.iret hc rfl dX6_wet_70 ⟨rfl, by rw [e], hC, hF⟩
    | succ j ih =>
      intro k σ hk e hC hF
      rw [firstF] at e
      obtain ⟨da, dp, dq, dh, dd, hD⟩ := hC.cd
      have hmy : pop (bsN (hasC (hoursN (rainK a k np) np nq hr i1)) nq) ≤ 6 := many_le (a := rainK a k np) (np := np) (hr := hr) (k := i1) hW2
      refine R.iload_n (j := 2) (i := 2) hc rfl rfl dX6_wet_14 ?_
      refine R.bipush hc bp_60 dX6_wet_15 ?_
      refine R.icmpN_gt (tgt := 68) hc dX6_wet_17 (by decide) (by omega) (by omega) (fun z => absurd z (by omega)) (fun _ => ?_)
      refine R.aload_n (j := 0) (i := 0) hc rfl rfl dX6_wet_20 ?_
      refine R.get hc gf_X6_23_r dX6_wet_21 (hD.1) rfl ?_
      refine R.aload_n (j := 0) (i := 0) hc rfl rfl dX6_wet_24 ?_
      refine R.get hc gf_X6_10_r dX6_wet_25 (hD.1) rfl ?_
      refine R.cVu hc m_X4_copyFrom lk_X6_140 dX6_wet_28 (c_X4_copyFrom l (d + 3) X n hD.2.2.2.1 hD.2.1 hW1 hW2 (by omega)) (hD.2.2.2.1.obj) rfl rfl rfl (by omega) ⟨Nat.le_refl _, Nat.le_refl _⟩ (Nat.le_of_ble_eq_true rfl) (fun σ hX => ?_)
      have hD := hD.w hX.1 hX.2
      have hF := hF.tr (hX.2.wid (by omega))
      refine R.aload_n (j := 0) (i := 0) hc rfl rfl dX6_wet_31 ?_
      refine R.get hc gf_X6_23_r dX6_wet_32 (hD.1) rfl ?_
      refine R.iload_n (j := 2) (i := 2) hc rfl rfl dX6_wet_35 ?_
      refine R.cVu hc m_X4_deepen lk_X6_172 dX6_wet_36 (c_X4_deepen l (d + 3) X n hD.2.2.2.1 hW (by omega)) (hD.2.2.2.1.obj) rfl rfl rfl (by omega) ⟨Nat.le_refl _, Nat.le_refl _⟩ (Nat.le_of_ble_eq_true rfl) (fun σ hX => ?_)
      have hD := hD.w hX.1 hX.2
      have hF := hF.tr (hX.2.wid (by omega))
      refine R.aload_n (j := 0) (i := 0) hc rfl rfl dX6_wet_39 ?_
      refine R.get hc gf_X6_23_r dX6_wet_40 (hD.1) rfl ?_
      refine R.iload_n (j := 1) (i := 1) hc rfl rfl dX6_wet_43 ?_
      refine R.cVi hc m_X4_claimantsBehind lk_X6_192 dX6_wet_44 (c_X4_claimantsBehind l d X n hD.2.2.2.1 (WF_rainK hW) (by omega) (by omega)) (hD.2.2.2.1.obj) rfl rfl rfl (by omega) ⟨Nat.le_refl _, Nat.le_refl _⟩ (Nat.le_of_ble_eq_true rfl) (fun σ hX => ?_)
      obtain ⟨m9, hs9, he9, hE⟩ := hX
      have hD := hD.w hs9 hE
      have hF := hF.tr (hE.wid (by omega))
      refine R.cSr hc m_J6_bitCount_0f7a4 lk_X6_208 dX6_wet_47 (c_bitCount l (d + 4) X n (Nat.lt_of_lt_of_le (bsN_lt _ _) (Nat.pow_le_pow_right (by omega) (by omega : nq ≤ 7)))) rfl rfl (by omega) ⟨Nat.le_refl _, Nat.le_refl _⟩ (Nat.le_of_ble_eq_true rfl) ?_
      refine R.aload_n (j := 0) (i := 0) hc rfl rfl dX6_wet_50 ?_
      refine R.get hc gf_X6_10_r dX6_wet_51 (hD.1) rfl ?_
      refine R.get hc gf_X6_147_r dX6_wet_54 (hD.2.1.obj) rfl ?_
      refine R.icmpN_ne (tgt := 62) hc dX6_wet_57 (by decide) (by omega) (by omega) (fun z => ?_) (fun z => ?_)
      · rw [if_neg (by simp [many, z])] at e
        refine R.iinc2 hc dX6_wet_62 (iiN1 _) (by decide) rfl ?_
        refine R.goto (tgt := 14) hc dX6_wet_65 (by decide) ?_
        exact ih (k + 1) σ (by omega) e hD.ca hF
      · rw [if_pos (by simp [many, z])] at e
        refine R.iload_n (j := 2) (i := 2) hc rfl rfl dX6_wet_60 ?_
        exact R.iret hc rfl dX6_wet_61 ⟨rfl, by rw [e], hD.ca, hF⟩
  refine R.iconst hc ic_0 dX6_wet_12 ?_
  refine R.istn2 hc dX6_wet_13 (by decide) rfl ?_
  exact key 61 0 σ rfl hans.symm hC hF
set_option maxHeartbeats 4000000 in
set_option maxRecDepth 100000 in
theorem c_X6_matters (l : Launch) (d : Nat) (X : Nat × (Nat → Int32)) (n : Nat) {σ : Wd} {a : SA} {np nq hr dr : Nat} {hs : List SN} {im : IM} {tp : Nat → Nat} {tl : Nat} {ln sz : Nat → Nat} {it : Nat → Nat → Int64} (hC : CA σ a np nq hr dr hs im tp tl ln sz it) (hI : WI a np nq hr dr hs im tp tl ln sz) (w v : Int32) : CN l yX6_matters cX6_matters 7 (some .int) ((d + 5)) X n [.ref 0, .int w, .int v] σ (fun r σ' => r = some (.int (s_matters a np nq hr w v)) ∧ (CA σ' a np nq hr dr hs im tp tl ln sz it ∧ Eqo 0 42 σ σ')) := by
  refine CN.of (by decide) [some (.ref 0), some (.int w), some (.int v), none, none, none, none] (fun _ => Nat.le_of_ble_eq_true rfl) (fun _ => rfl) (fun cx hc => ?_)
  obtain ⟨da, dp, dq, dh, dd, hD⟩ := hC.cd
  obtain ⟨hW, hh, hdr, hwh, hwi, hU, hV⟩ := hI
  have hW1 := hW.1
  have hW2 := hW.2.1
  have hF : Eqo 0 42 σ σ := Eqo.rf
  refine R.iload_n (j := 1) (i := 1) hc rfl rfl dX6_matters_0 ?_
  refine R.iconst hc ic_1 dX6_matters_1 ?_
  refine R.bipush hc bp_30 dX6_matters_2 ?_
  refine R.cSr hc m_X6_within lk_X6_64 dX6_matters_4 (c_X6_within l (d + 4) X n _ _ _) rfl rfl (by omega) ⟨Nat.le_refl _, Nat.le_refl _⟩ (Nat.le_of_ble_eq_true rfl) ?_
  refine R.ifB_eq (tgt := 19) hc dX6_matters_7 (by decide) (fun q1 => ?_) (fun q1 => ?_)
  · refine R.iconst hc ic_m1 dX6_matters_19 ?_
    have e9 : (-1) = s_matters a np nq hr w v := by simp [s_matters, q1]
    exact R.iret hc rfl dX6_matters_20 ⟨rfl, congrArg (fun z => some (Value.int z)) e9, hD.ca, hF⟩
  refine R.iload_n (j := 2) (i := 2) hc rfl rfl dX6_matters_10 ?_
  refine R.iconst hc ic_0 dX6_matters_11 ?_
  refine R.iconst hc ic_1 dX6_matters_12 ?_
  refine R.cSr hc m_X6_within lk_X6_64 dX6_matters_13 (c_X6_within l (d + 4) X n _ _ _) rfl rfl (by omega) ⟨Nat.le_refl _, Nat.le_refl _⟩ (Nat.le_of_ble_eq_true rfl) ?_
  refine R.ifB_ne (tgt := 21) hc dX6_matters_16 (by decide) (fun q2 => ?_) (fun q2 => ?_)
  rotate_left
  · refine R.iconst hc ic_m1 dX6_matters_19 ?_
    have e9 : (-1) = s_matters a np nq hr w v := by simp [s_matters, q2]
    exact R.iret hc rfl dX6_matters_20 ⟨rfl, congrArg (fun z => some (Value.int z)) e9, hD.ca, hF⟩
  obtain ⟨i1, rfl, _, g1, t1⟩ := inR_of (by decide) (by decide) q1
  obtain ⟨i2, rfl, _, g2, t2⟩ := inR_of (by decide) (by decide) q2
  have hA : s_matters a np nq hr (nI i1) (nI i2) = mtA (fun p => many (a2 a 2 p 0) np nq hr i1) np i2 := by simp [s_matters, q1, q2, t1, t2]
  rw [hA] at hc
  have hmt : ∀ k, (mtF (fun p => many (a2 a 2 p 0) np nq hr i1) k).1 ≤ k ∧ (mtF (fun p => many (a2 a 2 p 0) np nq hr i1) k).2 ≤ 6 := by
    intro k
    induction k with
    | zero => exact ⟨Nat.le_refl _, Nat.zero_le _⟩
    | succ k ih =>
      rw [mtF]
      split
      · exact ⟨Nat.le_refl _, many_le hW2⟩
      · exact ⟨by omega, ih.2⟩
  refine R.bipush hc bp_m4 dX6_matters_21 ?_
  refine R.istn3 hc dX6_matters_23 (by decide) rfl ?_
  refine R.bipush hc bp_m4 dX6_matters_24 ?_
  refine R.ist4 hc dX6_matters_26 (by decide) rfl ?_
  refine R.iconst hc ic_0 dX6_matters_28 ?_
  refine R.ist5 hc dX6_matters_29 (by decide) rfl ?_
  refine rl_down (P := fun p => ∀ σ1, CA σ1 a np nq hr dr hs im tp tl ln sz it → Eqo 0 42 σ σ1 → R cx 0 0 n σ1 31 [some (.ref 0), some (.int (nI i1)), some (.int (nI i2)), some (.int (cI (mtF (fun p => many (a2 a 2 p 0) np nq hr i1) p).1)), some (.int (if (mtF (fun p => many (a2 a 2 p 0) np nq hr i1) p).1 = 0 then -4 else nI (mtF (fun p => many (a2 a 2 p 0) np nq hr i1) p).2)), some (.int (nI p)), none] []) np (fun σ hC hF => ?_) (fun p hp ih σ hC hF => ?_) 0 (Nat.zero_le _) σ hC hF
  · obtain ⟨da, dp, dq, dh, dd, hD⟩ := hC.cd
    refine R.iload (i := 5) hc rfl dX6_matters_31 ?_
    refine R.aload_n (j := 0) (i := 0) hc rfl rfl dX6_matters_33 ?_
    refine R.get hc gf_X6_10_r dX6_matters_34 (hD.1) rfl ?_
    refine R.get hc gf_X6_144_r dX6_matters_37 (hD.2.1.obj) rfl ?_
    refine R.icmpN_ge (tgt := 102) hc dX6_matters_40 (by decide) (by omega) (by omega) (fun _ => ?_) (fun q => absurd (Nat.le_refl _) q)
    refine R.iload_n (j := 2) (i := 2) hc rfl rfl dX6_matters_102 ?_
    refine R.ifN_ne (tgt := 110) hc dX6_matters_103 (by decide) (by omega) (fun z => ?_) (fun z => ?_)
    · refine R.iload (i := 4) hc rfl dX6_matters_110 ?_
      exact R.iret hc rfl dX6_matters_112 ⟨rfl, by rw [mtA, if_neg z], hD.ca, hF⟩
    · refine R.iload_n (j := 3) (i := 3) hc rfl rfl dX6_matters_106 ?_
      refine R.goto (tgt := 112) hc dX6_matters_107 (by decide) ?_
      exact R.iret hc rfl dX6_matters_112 ⟨rfl, by rw [mtA, if_pos z], hD.ca, hF⟩
  · obtain ⟨da, dp, dq, dh, dd, hD⟩ := hC.cd
    have hmy : pop (bsN (hasC (hoursN (a2 a 2 p 0) np nq hr i1)) nq) ≤ 6 := many_le (a := a2 a 2 p 0) (np := np) (hr := hr) (k := i1) hW2
    have hm2 := hmt p
    refine R.iload (i := 5) hc rfl dX6_matters_31 ?_
    refine R.aload_n (j := 0) (i := 0) hc rfl rfl dX6_matters_33 ?_
    refine R.get hc gf_X6_10_r dX6_matters_34 (hD.1) rfl ?_
    refine R.get hc gf_X6_144_r dX6_matters_37 (hD.2.1.obj) rfl ?_
    refine R.icmpN_ge (tgt := 102) hc dX6_matters_40 (by decide) (by omega) (by omega) (fun q => absurd q (by omega)) (fun _ => ?_)
    refine R.aload_n (j := 0) (i := 0) hc rfl rfl dX6_matters_43 ?_
    refine R.get hc gf_X6_23_r dX6_matters_44 (hD.1) rfl ?_
    refine R.aload_n (j := 0) (i := 0) hc rfl rfl dX6_matters_47 ?_
    refine R.get hc gf_X6_10_r dX6_matters_48 (hD.1) rfl ?_
    refine R.cVu hc m_X4_copyFrom lk_X6_140 dX6_matters_51 (c_X4_copyFrom l (d + 3) X n hD.2.2.2.1 hD.2.1 hW1 hW2 (by omega)) (hD.2.2.2.1.obj) rfl rfl rfl (by omega) ⟨Nat.le_refl _, Nat.le_refl _⟩ (Nat.le_of_ble_eq_true rfl) (fun σ hX => ?_)
    have hD := hD.w hX.1 hX.2
    have hF := hF.tr (hX.2.wid (by omega))
    refine R.aload_n (j := 0) (i := 0) hc rfl rfl dX6_matters_54 ?_
    refine R.get hc gf_X6_23_r dX6_matters_55 (hD.1) rfl ?_
    refine R.get hc gf_X6_95 dX6_matters_58 (hD.2.2.2.1.obj) rfl ?_
    refine R.iload (i := 5) hc rfl dX6_matters_61 ?_
    refine R.iconst hc ic_0 dX6_matters_63 ?_
    refine R.iastW hc dX6_matters_64 (hD.2.2.2.1.w2 _ 0) (by omega) (by decide) (fun σ hX => ?_)
    have hD := hD.w hX.1 hX.2
    have hF := hF.tr (hX.2.wid (by omega))
    refine R.aload_n (j := 0) (i := 0) hc rfl rfl dX6_matters_65 ?_
    refine R.get hc gf_X6_23_r dX6_matters_66 (hD.1) rfl ?_
    refine R.iload_n (j := 1) (i := 1) hc rfl rfl dX6_matters_69 ?_
    refine R.cVi hc m_X4_claimantsBehind lk_X6_192 dX6_matters_70 (c_X4_claimantsBehind l d X n hD.2.2.2.1 (WF_dep hW (Nat.zero_le _)) (by omega) (by omega)) (hD.2.2.2.1.obj) rfl rfl rfl (by omega) ⟨Nat.le_refl _, Nat.le_refl _⟩ (Nat.le_of_ble_eq_true rfl) (fun σ hX => ?_)
    obtain ⟨m9, hs9, he9, hE⟩ := hX
    have hD := hD.w hs9 hE
    have hF := hF.tr (hE.wid (by omega))
    refine R.cSr hc m_J6_bitCount_0f7a4 lk_X6_208 dX6_matters_73 (c_bitCount l (d + 4) X n (Nat.lt_of_lt_of_le (bsN_lt _ _) (Nat.pow_le_pow_right (by omega) (by omega : nq ≤ 7)))) rfl rfl (by omega) ⟨Nat.le_refl _, Nat.le_refl _⟩ (Nat.le_of_ble_eq_true rfl) ?_
    refine R.ist6 hc dX6_matters_76 (by decide) rfl ?_
    refine R.iload_n (j := 3) (i := 3) hc rfl rfl dX6_matters_78 ?_
    have e9 : many (a2 a 2 p 0) np nq hr i1 = pop (bsN (hasC (hoursN (a2 a 2 p 0) np nq hr i1)) nq) := rfl
    by_cases z : (mtF (fun p => many (a2 a 2 p 0) np nq hr i1) p).1 = 0
    · rw [mtF, if_pos (Or.inl z)] at ih
      rw [z]
      refine R.if_lt (tgt := 89) hc dX6_matters_79 (by decide) (fun _ => ?_) (fun y => absurd (by decide) y)
      refine R.iload (i := 5) hc rfl dX6_matters_89 ?_
      refine R.istn3 hc dX6_matters_91 (by decide) rfl ?_
      refine R.iload (i := 6) hc rfl dX6_matters_92 ?_
      refine R.ist4 hc dX6_matters_94 (by decide) rfl ?_
      refine R.iinc5 hc dX6_matters_96 (iiN1 _) (by decide) rfl ?_
      refine R.goto (tgt := 31) hc dX6_matters_99 (by decide) ?_
      exact R.fg6 (ih σ hD.ca hF)
    · obtain ⟨c, hcv⟩ : ∃ c, (mtF (fun p => many (a2 a 2 p 0) np nq hr i1) p).1 = c + 1 := ⟨(mtF (fun p => many (a2 a 2 p 0) np nq hr i1) p).1 - 1, by omega⟩
      rw [mtF] at ih
      rw [if_neg z]
      rw [hcv] at hm2 ⊢
      simp only [cI]
      refine R.ifN_lt (tgt := 89) hc dX6_matters_79 (by decide) (by omega) ?_
      refine R.iload (i := 6) hc rfl dX6_matters_82 ?_
      refine R.iload (i := 4) hc rfl dX6_matters_84 ?_
      refine R.icmpN_ge (tgt := 96) hc dX6_matters_86 (by decide) (by omega) (by omega) (fun y => ?_) (fun y => ?_)
      · rw [if_neg (by rw [e9]; omega), hcv] at ih
        simp only [if_neg (show ¬ c + 1 = 0 by omega), cI] at ih
        refine R.iinc5 hc dX6_matters_96 (iiN1 _) (by decide) rfl ?_
        refine R.goto (tgt := 31) hc dX6_matters_99 (by decide) ?_
        exact R.fg6 (ih σ hD.ca hF)
      · rw [if_pos (Or.inr (by rw [e9]; omega))] at ih
        refine R.iload (i := 5) hc rfl dX6_matters_89 ?_
        refine R.istn3 hc dX6_matters_91 (by decide) rfl ?_
        refine R.iload (i := 6) hc rfl dX6_matters_92 ?_
        refine R.ist4 hc dX6_matters_94 (by decide) rfl ?_
        refine R.iinc5 hc dX6_matters_96 (iiN1 _) (by decide) rfl ?_
        refine R.goto (tgt := 31) hc dX6_matters_99 (by decide) ?_
        exact R.fg6 (ih σ hD.ca hF)
set_option maxHeartbeats 4000000 in
set_option maxRecDepth 100000 in
theorem c_X6_sight (l : Launch) (d : Nat) (X : Nat × (Nat → Int32)) (n : Nat) {σ : Wd} {a : SA} {np nq hr dr : Nat} {hs : List SN} {im : IM} {tp : Nat → Nat} {tl : Nat} {ln sz : Nat → Nat} {it : Nat → Nat → Int64} (hC : CA σ a np nq hr dr hs im tp tl ln sz it) (hI : WI a np nq hr dr hs im tp tl ln sz) (p w v : Int32) : CN l yX6_sight cX6_sight 8 (some .int) ((d + 5)) X n [.ref 0, .int p, .int w, .int v] σ (fun r σ' => r = some (.int (s_sight a np nq hr p w v)) ∧ (CA σ' a np nq hr dr hs im tp tl ln sz it ∧ Eqo 0 42 σ σ')) := by
  refine CN.of (by decide) [some (.ref 0), some (.int p), some (.int w), some (.int v), none, none, none, none] (fun _ => Nat.le_of_ble_eq_true rfl) (fun _ => rfl) (fun cx hc => ?_)
  obtain ⟨da, dp, dq, dh, dd, hD⟩ := hC.cd
  obtain ⟨hW, hh, hdr, hwh, hwi, hU, hV⟩ := hI
  have hW1 := hW.1
  have hW2 := hW.2.1
  have hF : Eqo 0 42 σ σ := Eqo.rf
  refine R.aload_n (j := 0) (i := 0) hc rfl rfl dX6_sight_0 ?_
  refine R.get hc gf_X6_10_r dX6_sight_1 (hD.1) rfl ?_
  refine R.iload_n (j := 1) (i := 1) hc rfl rfl dX6_sight_4 ?_
  refine R.cVr hc m_X4_hasPuddle lk_X6_85 dX6_sight_5 (c_X4_hasPuddle l (d + 4) X n hD.2.1 hW _) (hD.2.1.obj) rfl rfl rfl (by omega) ⟨Nat.le_refl _, Nat.le_refl _⟩ (Nat.le_of_ble_eq_true rfl) ?_
  refine R.ifB_eq (tgt := 30) hc dX6_sight_8 (by decide) (fun q0 => ?_) (fun q0 => ?_)
  · refine R.iconst hc ic_m1 dX6_sight_30 ?_
    have e9 : (-1) = s_sight a np nq hr p w v := by simp [s_sight, q0]
    exact R.iret hc rfl dX6_sight_31 ⟨rfl, congrArg (fun z => some (Value.int z)) e9, hD.ca, hF⟩
  refine R.iload_n (j := 2) (i := 2) hc rfl rfl dX6_sight_11 ?_
  refine R.iconst hc ic_1 dX6_sight_12 ?_
  refine R.bipush hc bp_30 dX6_sight_13 ?_
  refine R.cSr hc m_X6_within lk_X6_64 dX6_sight_15 (c_X6_within l (d + 4) X n _ _ _) rfl rfl (by omega) ⟨Nat.le_refl _, Nat.le_refl _⟩ (Nat.le_of_ble_eq_true rfl) ?_
  refine R.ifB_eq (tgt := 30) hc dX6_sight_18 (by decide) (fun q1 => ?_) (fun q1 => ?_)
  · refine R.iconst hc ic_m1 dX6_sight_30 ?_
    have e9 : (-1) = s_sight a np nq hr p w v := by simp [s_sight, q1]
    exact R.iret hc rfl dX6_sight_31 ⟨rfl, congrArg (fun z => some (Value.int z)) e9, hD.ca, hF⟩
  refine R.iload_n (j := 3) (i := 3) hc rfl rfl dX6_sight_21 ?_
  refine R.iconst hc ic_0 dX6_sight_22 ?_
  refine R.iconst hc ic_1 dX6_sight_23 ?_
  refine R.cSr hc m_X6_within lk_X6_64 dX6_sight_24 (c_X6_within l (d + 4) X n _ _ _) rfl rfl (by omega) ⟨Nat.le_refl _, Nat.le_refl _⟩ (Nat.le_of_ble_eq_true rfl) ?_
  refine R.ifB_ne (tgt := 32) hc dX6_sight_27 (by decide) (fun q2 => ?_) (fun q2 => ?_)
  rotate_left
  · refine R.iconst hc ic_m1 dX6_sight_30 ?_
    have e9 : (-1) = s_sight a np nq hr p w v := by simp [s_sight, q2]
    exact R.iret hc rfl dX6_sight_31 ⟨rfl, congrArg (fun z => some (Value.int z)) e9, hD.ca, hF⟩
  obtain ⟨i0, rfl, g0, t0⟩ := inI_tN (by omega) q0
  obtain ⟨i1, rfl, _, g1, t1⟩ := inR_of (by decide) (by decide) q1
  obtain ⟨i2, rfl, _, g2, t2⟩ := inR_of (by decide) (by decide) q2
  have hA : s_sight a np nq hr (nI i0) (nI i1) (nI i2) = stA (fun s => many (a2 a 1 i0 s) np nq hr i1) i2 := by simp [s_sight, q0, q1, q2, t0, t1, t2]
  rw [hA] at hc
  have hmt : ∀ k, (stF (fun s => many (a2 a 1 i0 s) np nq hr i1) k).1 ≤ k ∧ (stF (fun s => many (a2 a 1 i0 s) np nq hr i1) k).2 ≤ 7 := by
    intro k
    induction k with
    | zero => exact ⟨Nat.le_refl _, Nat.zero_le _⟩
    | succ k ih =>
      rw [stF]
      split
      · exact ⟨by omega, by have := many_le (a := a2 a 1 i0 k) (np := np) (hr := hr) (k := i1) hW2; show _ + 1 ≤ 7; omega⟩
      · exact ⟨by omega, ih.2⟩
  refine R.iconst hc ic_0 dX6_sight_32 ?_
  refine R.ist4 hc dX6_sight_33 (by decide) rfl ?_
  refine R.iconst hc ic_m1 dX6_sight_35 ?_
  refine R.ist5 hc dX6_sight_36 (by decide) rfl ?_
  refine R.iconst hc ic_0 dX6_sight_38 ?_
  refine R.ist6 hc dX6_sight_39 (by decide) rfl ?_
  refine rl_down (P := fun s => ∀ σ1, CA σ1 a np nq hr dr hs im tp tl ln sz it → Eqo 0 42 σ σ1 → R cx 0 0 n σ1 41 [some (.ref 0), some (.int (nI i0)), some (.int (nI i1)), some (.int (nI i2)), some (.int (nI (stF (fun s => many (a2 a 1 i0 s) np nq hr i1) s).1)), some (.int (lnI (stF (fun s => many (a2 a 1 i0 s) np nq hr i1) s).2)), some (.int (nI s)), none] []) 8 (fun σ hC hF => ?_) (fun s hs9 ih σ hC hF => ?_) 0 (Nat.zero_le _) σ hC hF
  · refine R.iload (i := 6) hc rfl dX6_sight_41 ?_
    refine R.bipush hc bp_8 dX6_sight_43 ?_
    refine R.icmpN_ge (tgt := 104) hc dX6_sight_45 (by decide) (by omega) (by omega) (fun _ => ?_) (fun q => absurd (Nat.le_refl _) q)
    refine R.iload_n (j := 3) (i := 3) hc rfl rfl dX6_sight_104 ?_
    refine R.ifN_ne (tgt := 113) hc dX6_sight_105 (by decide) (by omega) (fun z => ?_) (fun z => ?_)
    · refine R.iload (i := 5) hc rfl dX6_sight_113 ?_
      exact R.iret hc rfl dX6_sight_115 ⟨rfl, by rw [stA, if_neg z], hC, hF⟩
    · refine R.iload (i := 4) hc rfl dX6_sight_108 ?_
      refine R.goto (tgt := 115) hc dX6_sight_110 (by decide) ?_
      exact R.iret hc rfl dX6_sight_115 ⟨rfl, by rw [stA, if_pos z], hC, hF⟩
  · obtain ⟨da, dp, dq, dh, dd, hD⟩ := hC.cd
    have hmy : pop (bsN (hasC (hoursN (a2 a 1 i0 s) np nq hr i1)) nq) ≤ 6 := many_le (a := a2 a 1 i0 s) (np := np) (hr := hr) (k := i1) hW2
    have hm2 := hmt s
    have e9 : many (a2 a 1 i0 s) np nq hr i1 = pop (bsN (hasC (hoursN (a2 a 1 i0 s) np nq hr i1)) nq) := rfl
    refine R.iload (i := 6) hc rfl dX6_sight_41 ?_
    refine R.bipush hc bp_8 dX6_sight_43 ?_
    refine R.icmpN_ge (tgt := 104) hc dX6_sight_45 (by decide) (by omega) (by omega) (fun q => absurd q (by omega)) (fun _ => ?_)
    refine R.aload_n (j := 0) (i := 0) hc rfl rfl dX6_sight_48 ?_
    refine R.get hc gf_X6_23_r dX6_sight_49 (hD.1) rfl ?_
    refine R.aload_n (j := 0) (i := 0) hc rfl rfl dX6_sight_52 ?_
    refine R.get hc gf_X6_10_r dX6_sight_53 (hD.1) rfl ?_
    refine R.cVu hc m_X4_copyFrom lk_X6_140 dX6_sight_56 (c_X4_copyFrom l (d + 3) X n hD.2.2.2.1 hD.2.1 hW1 hW2 (by omega)) (hD.2.2.2.1.obj) rfl rfl rfl (by omega) ⟨Nat.le_refl _, Nat.le_refl _⟩ (Nat.le_of_ble_eq_true rfl) (fun σ hX => ?_)
    have hD := hD.w hX.1 hX.2
    have hF := hF.tr (hX.2.wid (by omega))
    refine R.aload_n (j := 0) (i := 0) hc rfl rfl dX6_sight_59 ?_
    refine R.get hc gf_X6_23_r dX6_sight_60 (hD.1) rfl ?_
    refine R.get hc gf_X6_88 dX6_sight_63 (hD.2.2.2.1.obj) rfl ?_
    refine R.iload_n (j := 1) (i := 1) hc rfl rfl dX6_sight_66 ?_
    refine R.iload (i := 6) hc rfl dX6_sight_67 ?_
    refine R.iastW hc dX6_sight_69 (hD.2.2.2.1.w1 _ _) (by omega) (by decide) (fun σ hX => ?_)
    have hD := hD.w hX.1 hX.2
    have hF := hF.tr (hX.2.wid (by omega))
    refine R.aload_n (j := 0) (i := 0) hc rfl rfl dX6_sight_70 ?_
    refine R.get hc gf_X6_23_r dX6_sight_71 (hD.1) rfl ?_
    refine R.iload_n (j := 2) (i := 2) hc rfl rfl dX6_sight_74 ?_
    refine R.cVi hc m_X4_claimantsBehind lk_X6_192 dX6_sight_75 (c_X4_claimantsBehind l d X n hD.2.2.2.1 (WF_sight hW (by omega)) (by omega) (by omega)) (hD.2.2.2.1.obj) rfl rfl rfl (by omega) ⟨Nat.le_refl _, Nat.le_refl _⟩ (Nat.le_of_ble_eq_true rfl) (fun σ hX => ?_)
    obtain ⟨m9, hs9, he9, hE⟩ := hX
    have hD := hD.w hs9 hE
    have hF := hF.tr (hE.wid (by omega))
    refine R.cSr hc m_J6_bitCount_0f7a4 lk_X6_208 dX6_sight_78 (c_bitCount l (d + 4) X n (Nat.lt_of_lt_of_le (bsN_lt _ _) (Nat.pow_le_pow_right (by omega) (by omega : nq ≤ 7)))) rfl rfl (by omega) ⟨Nat.le_refl _, Nat.le_refl _⟩ (Nat.le_of_ble_eq_true rfl) ?_
    refine R.ist7 hc dX6_sight_81 (by decide) rfl ?_
    refine R.iload (i := 7) hc rfl dX6_sight_83 ?_
    refine R.iload (i := 5) hc rfl dX6_sight_85 ?_
    have hle : (nI (pop (bsN (hasC (hoursN (a2 a 1 i0 s) np nq hr i1)) nq)) ≤ lnI (stF (fun s => many (a2 a 1 i0 s) np nq hr i1) s).2) ↔ ¬ (stF (fun s => many (a2 a 1 i0 s) np nq hr i1) s).2 ≤ many (a2 a 1 i0 s) np nq hr i1 := by
      rw [e9]
      cases hz : (stF (fun s => many (a2 a 1 i0 s) np nq hr i1) s).2 with
      | zero =>
        simp only [lnI]
        refine ⟨fun h => ?_, fun h => absurd (Nat.zero_le _) h⟩
        rw [Int32.le_iff_toInt_le, nI_toInt (by omega)] at h
        have h4 : (-1 : Int32).toInt = -1 := by decide
        omega
      | succ k =>
        rw [hz] at hm2
        simp only [lnI]
        rw [nI_leI (by omega) (by omega)]
        omega
    refine R.icmp_le (tgt := 98) hc dX6_sight_87 (by decide) (fun z => ?_) (fun z => ?_)
    · rw [stF, if_neg (hle.mp z)] at ih
      refine R.iinc6 hc dX6_sight_98 (iiN1 _) (by decide) rfl ?_
      refine R.goto (tgt := 41) hc dX6_sight_101 (by decide) ?_
      exact R.fg7 (ih σ hD.ca hF)
    · have z : (stF (fun s => many (a2 a 1 i0 s) np nq hr i1) s).2 ≤ many (a2 a 1 i0 s) np nq hr i1 := by rcases Nat.lt_or_ge (many (a2 a 1 i0 s) np nq hr i1) (stF (fun s => many (a2 a 1 i0 s) np nq hr i1) s).2 with y | y; exact absurd (hle.mpr (by omega)) z; exact y
      rw [stF, if_pos z] at ih
      refine R.iload (i := 6) hc rfl dX6_sight_90 ?_
      refine R.ist4 hc dX6_sight_92 (by decide) rfl ?_
      refine R.iload (i := 7) hc rfl dX6_sight_94 ?_
      refine R.ist5 hc dX6_sight_96 (by decide) rfl ?_
      refine R.iinc6 hc dX6_sight_98 (iiN1 _) (by decide) rfl ?_
      refine R.goto (tgt := 41) hc dX6_sight_101 (by decide) ?_
      exact R.fg7 (ih σ hD.ca hF)
