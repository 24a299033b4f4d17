/-- the street after k hours in which nobody claims -/
def lsN (a : SA) (np hr : Nat) : Nat → SA
  | 0 => a
  | k + 1 => lessen (lsN a np hr k) np (hr + k)
theorem lsN_other {a : SA} {np hr : Nat} : ∀ k i j, i ≠ 2 → lsN a np hr k i j = a i j := by
  intro k
  induction k with
  | zero => intro i j _; rfl
  | succ k ih => intro i j h; rw [lsN, lessen_other h]; exact ih i j h
theorem WF_lsN {a : SA} {np nq hr : Nat} (hW : WF a np nq) : ∀ k, WF (lsN a np hr k) np nq := by
  intro k
  induction k with
  | zero => exact hW
  | succ k ih => exact WF_lessenK ih
/-- who waits, a set -/
def wtS (a : SA) (nq : Nat) : Nat := (2 ^ nq - 1) &&& (bsN (hasC a) nq ^^^ 4294967295)
theorem wtS_lt {a : SA} {nq : Nat} (h : nq ≤ 6) : wtS a nq < 2 ^ 6 := by
  have h2 : 2 ^ nq ≤ 2 ^ 6 := Nat.pow_le_pow_right (by omega) h
  have h3 : 0 < 2 ^ nq := Nat.two_pow_pos nq
  exact Nat.lt_of_le_of_lt Nat.and_le_left (by omega)
theorem wtS_bit {a : SA} {nq q : Nat} (h : nq ≤ 6) : (wtS a nq).testBit q = (decide (q < nq) && !hasC a q) := by
  unfold wtS
  rw [Nat.testBit_and, Nat.testBit_xor, bsN_bit, Nat.testBit_two_pow_sub_one]
  by_cases hq : q < nq
  · have h32 : Nat.testBit 4294967295 q = true := by
      have : ∀ q, q < 6 → Nat.testBit 4294967295 q = true := by decide
      exact this q (by omega)
    simp [hq, h32]
  · simp [hq]
theorem fndS_lsN {a : SA} {np hl hr k : Nat} {dep : Nat → Nat → Nat} : fndS (lsN a np hr k) np hl dep = fndS a np hl dep := by
  funext L q Tk
  unfold fndS fitB
  simp only [lsN_other k 1 _ (by omega), lsN_other k 3 _ (by omega), lsN_other k 5 _ (by omega)]
theorem clS_lsN {a : SA} {np nq hr k : Nat} : clS (lsN a np hr k) nq = clS a nq := clS_ext nq (fun q _ => lsN_other k 6 q (by omega))
theorem pop_6 : ∀ T, T < 64 → pop T ≤ 6 := by decide +kernel
set_option maxHeartbeats 4000000 in
set_option maxRecDepth 100000 in
theorem c_X2_search (l : Launch) (d : Nat) (X : Nat × (Nat → Int32)) (n : Nat) {σ : Wd} {b b' : Nat} {a : SA} {np nq hr dr np0 sz0 hl0 mo0 k0 : Nat} {dep0 : Nat → Nat → Nat} {c bs : Nat → Nat} (hO : Od σ b dep0 c bs np0 sz0 hl0 mo0) (hS : St σ b' a np nq hr dr) (hW : WF a np nq) (hh : hr < 90000) (hk0 : k0 ≤ 1000) (hb : b + 4 ≤ b' ∨ b' + 8 ≤ b) : CN l yX2_search cX2_search 6 none ((d + 9)) X n [.ref b, .ref b', .int (nI k0)] σ (fun v σ' => v = none ∧ (Od σ' b (fun k p => lsN a np hr k 2 p) (ch (fndS a np k0 (fun k p => lsN a np hr k 2 p)) nq (pop (wtS a nq)) (pop (wtS a nq)) (wtS a nq) (clS a nq) (pop (bsN (hasC a) nq)) (c, bs, 0)).1 (ch (fndS a np k0 (fun k p => lsN a np hr k 2 p)) nq (pop (wtS a nq)) (pop (wtS a nq)) (wtS a nq) (clS a nq) (pop (bsN (hasC a) nq)) (c, bs, 0)).2.1 np (pop (wtS a nq)) k0 (ch (fndS a np k0 (fun k p => lsN a np hr k 2 p)) nq (pop (wtS a nq)) (pop (wtS a nq)) (wtS a nq) (clS a nq) (pop (bsN (hasC a) nq)) (c, bs, 0)).2.2 ∧ (∃ a' hr', St σ' b' a' np nq hr' dr) ∧ Eq2 b 4 b' 8 σ σ')) := by
  refine CN.of (by decide) [some (.ref b), some (.ref b'), some (.int (nI k0)), none, none, none] (fun _ => Nat.le_of_ble_eq_true rfl) (fun _ => rfl) (fun cx hc => ?_)
  have hW1 := hW.1
  have hW2 := hW.2.1
  have hwt := wtS_lt (a := a) hW2
  have hp6 := pop_6 _ hwt
  have hcl : bsN (hasC a) nq < 2 ^ 6 := Nat.lt_of_lt_of_le (bsN_lt _ _) (Nat.pow_le_pow_right (by omega) hW2)
  have hpc := pop_6 _ hcl
  have h2n : 2 ^ nq ≤ 2 ^ 6 := Nat.pow_le_pow_right (by omega) hW2
  have h2p : 0 < 2 ^ nq := Nat.two_pow_pos nq
  have hcs := clS_lt hW nq (Nat.le_refl _)
  obtain ⟨σ9, hσ9⟩ : ∃ z, z = σ := ⟨_, rfl⟩
  have hF9 : Eq2 b 4 b' 8 σ9 σ := by rw [hσ9]; exact Eq2.rf
  obtain ⟨res, hres⟩ : ∃ z, z = ch (fndS a np k0 (fun k p => lsN a np hr k 2 p)) nq (pop (wtS a nq)) (pop (wtS a nq)) (wtS a nq) (clS a nq) (pop (bsN (hasC a) nq)) (c, bs, 0) := ⟨_, rfl⟩
  rw [← hres] at hc
  obtain ⟨h0, ⟨f1, h1, -⟩, ⟨f2, h2, k2⟩, f3, h3, k3⟩ := hO
  refine R.aload_n (j := 1) (i := 1) hc rfl rfl dX2_search_0 ?_
  refine R.cVr hc m_X4_claimants lk_X2_33 dX2_search_1 (c_X4_claimants l (d + 7) X n hS hW) (hS.obj) rfl rfl rfl (by omega) ⟨Nat.le_refl _, Nat.le_refl _⟩ (Nat.le_of_ble_eq_true rfl) ?_
  refine R.istn3 hc dX2_search_4 (by decide) rfl ?_
  refine R.iconst hc ic_1 dX2_search_5 ?_
  refine R.aload_n (j := 1) (i := 1) hc rfl rfl dX2_search_6 ?_
  refine R.get hc gf_X2_37_r dX2_search_7 (hS.obj) rfl ?_
  first | refine R.shl1N hc (by omega) dX2_search_10 ?_ | refine R.ishl hc dX2_search_10 ?_
  refine R.iconst hc ic_1 dX2_search_11 ?_
  first | refine R.isubN hc (by omega) dX2_search_12 ?_ | refine R.isub hc dX2_search_12 ?_
  refine R.iload_n (j := 3) (i := 3) hc rfl rfl dX2_search_13 ?_
  refine R.iconst hc ic_m1 dX2_search_14 ?_
  refine R.ixor hc dX2_search_15 ?_
  refine R.iand hc dX2_search_16 ?_
  have ec : nI (2 ^ nq - 1) &&& (nI (bsN (hasC a) nq) ^^^ (-1)) = nI (wtS a nq) := by
    have e1 : (-1 : Int32) = nI 4294967295 := by decide
    rw [e1, nI_xor, nI_and]; rfl
  rw [ec]
  refine R.ist4 hc dX2_search_17 (by decide) rfl ?_
  refine R.aload_n (j := 0) (i := 0) hc rfl rfl dX2_search_19 ?_
  refine R.iload (i := 4) hc rfl dX2_search_20 ?_
  refine R.cSr hc m_J6_bitCount_0f7a4 lk_X2_40 dX2_search_22 (c_bitCount l (d + 8) X n (S := wtS a nq) (by omega)) rfl rfl (by omega) ⟨Nat.le_refl _, Nat.le_refl _⟩ (Nat.le_of_ble_eq_true rfl) ?_
  refine R.putG hc gf_X2_23 dX2_search_25 (h0) (Nat.le_of_ble_eq_true rfl) (fun _ => rfl) (fun _ => rfl) (fun σ hX hE => ?_)
  have h1 := (hE _ (by omega)).trans h1
  have h2 := (hE _ (by omega)).trans h2
  have h3 := (hE _ (by omega)).trans h3
  have h0 := hX
  have hS := SX.eqo hS hE (by omega)
  have hF : Eq2 b 4 b' 8 σ9 σ := hF9.l (hE.wid (by omega))
  refine R.aload_n (j := 0) (i := 0) hc rfl rfl dX2_search_28 ?_
  refine R.iload_n (j := 2) (i := 2) hc rfl rfl dX2_search_29 ?_
  refine R.putG hc gf_X2_27 dX2_search_30 (h0) (Nat.le_of_ble_eq_true rfl) (fun _ => rfl) (fun _ => rfl) (fun σ hX hE => ?_)
  have h1 := (hE _ (by omega)).trans h1
  have h2 := (hE _ (by omega)).trans h2
  have h3 := (hE _ (by omega)).trans h3
  have h0 := hX
  have hS := SX.eqo hS hE (by omega)
  have hF := hF.l (hE.wid (by omega))
  refine R.aload_n (j := 0) (i := 0) hc rfl rfl dX2_search_33 ?_
  refine R.iconst hc ic_m1 dX2_search_34 ?_
  refine R.putG hc gf_X2_30 dX2_search_35 (h0) (Nat.le_of_ble_eq_true rfl) (fun _ => rfl) (fun _ => rfl) (fun σ hX hE => ?_)
  have h1 := (hE _ (by omega)).trans h1
  have h2 := (hE _ (by omega)).trans h2
  have h3 := (hE _ (by omega)).trans h3
  have h0 := hX
  have hS := SX.eqo hS hE (by omega)
  have hF := hF.l (hE.wid (by omega))
  refine R.iconst hc ic_0 dX2_search_38 ?_
  refine R.ist5 hc dX2_search_39 (by decide) rfl ?_
  refine rl_down (P := fun k => ∀ (σ1 : Wd) (f : Nat → Int32), σ1 b = some (.inr (2, [.ref (b + 1), .ref (b + 2), .ref (b + 3), .int (nI (pop (wtS a nq))), .int (nI k0), .int (lnI 0)])) → σ1 (b + 1) = some (.inl (0, 42, .inl f)) → σ1 (b + 2) = some (.inl (0, 6, .inl f2)) → σ1 (b + 3) = some (.inl (0, 6, .inl f3)) → (∀ i p, i < k → p < np → f (i * 7 + p) = nI (lsN a np hr i 2 p)) → St σ1 b' (lsN a np hr k) np nq (hr + k) dr → Eq2 b 4 b' 8 σ9 σ1 → R cx 0 0 n σ1 41 [some (.ref b), some (.ref b'), some (.int (nI k0)), some (.int (nI (bsN (hasC a) nq))), some (.int (nI (wtS a nq))), some (.int (nI k))] []) (pop (wtS a nq)) (fun σ f h0 h1 h2 h3 hf hS hF => ?_) (fun k hk ih σ f h0 h1 h2 h3 hf hS hF => ?_) 0 (Nat.zero_le _) σ f1 h0 h1 h2 h3 (fun i p hi => absurd hi (by omega)) hS hF
  · refine R.iload (i := 5) hc rfl dX2_search_41 ?_
    refine R.aload_n (j := 0) (i := 0) hc rfl rfl dX2_search_43 ?_
    refine R.get hc gf_X2_23_r dX2_search_44 (h0) rfl ?_
    refine R.icmpN_ge (tgt := 79) hc dX2_search_47 (by decide) (by omega) (by omega) (fun _ => ?_) (fun q => absurd (Nat.le_refl _) q)
    have hO : Od σ b (fun k p => lsN a np hr k 2 p) c bs np (pop (wtS a nq)) k0 0 := ⟨h0, ⟨f, h1, fun i p hi hp => hf i p hi hp⟩, ⟨f2, h2, k2⟩, f3, h3, k3⟩
    refine R.aload_n (j := 0) (i := 0) hc rfl rfl dX2_search_79 ?_
    refine R.aload_n (j := 1) (i := 1) hc rfl rfl dX2_search_80 ?_
    refine R.iconst hc ic_0 dX2_search_81 ?_
    refine R.iload (i := 4) hc rfl dX2_search_82 ?_
    refine R.aload_n (j := 1) (i := 1) hc rfl rfl dX2_search_84 ?_
    refine R.cVr hc m_X4_claimedSet lk_X2_58 dX2_search_85 (c_X4_claimedSet l (d + 7) X n hS (WF_lsN hW (pop (wtS a nq)))) (hS.obj) rfl rfl rfl (by omega) ⟨Nat.le_refl _, Nat.le_refl _⟩ (Nat.le_of_ble_eq_true rfl) ?_
    refine R.iload_n (j := 3) (i := 3) hc rfl rfl dX2_search_88 ?_
    refine R.cSr hc m_J6_bitCount_0f7a4 lk_X2_40 dX2_search_89 (c_bitCount l (d + 8) X n (S := bsN (hasC a) nq) (by omega)) rfl rfl (by omega) ⟨Nat.le_refl _, Nat.le_refl _⟩ (Nat.le_of_ble_eq_true rfl) ?_
    rw [clS_lsN, show nI 0 = nI (pop (wtS a nq) - pop (wtS a nq)) by rw [Nat.sub_self]]
    refine R.cVu hc m_X2_choose lk_X2_61 dX2_search_92 (c_X2_choose l (d + (6 - pop (wtS a nq))) X n (dep := (fun k p => lsN a np hr k 2 p)) (WF_lsN hW _) hb (by omega) hk0 (fun i p hi hp => ((WF_lsN hW i).2.2.1 p hp).2.2) (pop (wtS a nq)) (Nat.le_refl _) (wtS a nq) (clS a nq) (pop (bsN (hasC a) nq)) c bs 0 σ (by omega) (by omega) (by omega) (by omega) hO hS) hO.1 rfl rfl rfl (by omega) ⟨Nat.le_refl _, Nat.le_refl _⟩ (Nat.le_of_ble_eq_true rfl) (fun σ hX => ?_)
    obtain ⟨hO2, hE⟩ := hX
    rw [fndS_lsN, ← hres] at hO2
    exact R.vret hc rfl dX2_search_95 ⟨rfl, rfl, hO2, ⟨_, _, SX.eqo hS hE (by omega)⟩, by rw [← hσ9]; exact hF.l hE⟩
  · obtain ⟨f9, l1, l2⟩ := hS.2.1 2 (by omega)
    refine R.iload (i := 5) hc rfl dX2_search_41 ?_
    refine R.aload_n (j := 0) (i := 0) hc rfl rfl dX2_search_43 ?_
    refine R.get hc gf_X2_23_r dX2_search_44 (h0) rfl ?_
    refine R.icmpN_ge (tgt := 79) hc dX2_search_47 (by decide) (by omega) (by omega) (fun q => absurd q (by omega)) (fun _ => ?_)
    refine R.aload_n (j := 1) (i := 1) hc rfl rfl dX2_search_50 ?_
    refine R.get hc gf_X2_46 dX2_search_51 (hS.obj) rfl ?_
    refine R.iconst hc ic_0 dX2_search_54 ?_
    refine R.aload_n (j := 0) (i := 0) hc rfl rfl dX2_search_55 ?_
    refine R.get hc gf_X2_11_r dX2_search_56 (h0) rfl ?_
    refine R.iload (i := 5) hc rfl dX2_search_59 ?_
    refine R.bipush hc bp_7 dX2_search_61 ?_
    first | refine R.imulN hc dX2_search_63 ?_ | refine R.imul hc dX2_search_63 ?_
    refine R.bipush hc bp_7 dX2_search_64 ?_
    refine R.copyiG hc lk_X2_49 dX2_search_66 (l1) (h1) (by omega) (by omega) (by decide) (by decide) (by omega) (Nat.le_of_ble_eq_true rfl) (fun σ hX hE => ?_)
    have h0 := (hE _ (by omega)).trans h0
    have h1 := hX
    have h2 := (hE _ (by omega)).trans h2
    have h3 := (hE _ (by omega)).trans h3
    have hS := SX.eqo hS hE (by omega)
    have hF := hF.l (hE.wid (by omega))
    refine R.aload_n (j := 1) (i := 1) hc rfl rfl dX2_search_69 ?_
    refine R.cVu hc m_X4_lessen lk_X2_55 dX2_search_70 (c_X4_lessen l (d + 6) X n hS (WF_lsN hW k) (by omega)) (hS.obj) rfl rfl rfl (by omega) ⟨Nat.le_refl _, Nat.le_refl _⟩ (Nat.le_of_ble_eq_true rfl) (fun σ hX => ?_)
    obtain ⟨hS, hE⟩ := hX
    have h0 := (hE _ (by omega)).trans h0
    have h1 := (hE _ (by omega)).trans h1
    have h2 := (hE _ (by omega)).trans h2
    have h3 := (hE _ (by omega)).trans h3
    have hF := hF.r hE
    refine R.iinc5 hc dX2_search_73 (iiN1 _) (by decide) rfl ?_
    refine R.goto (tgt := 41) hc dX2_search_76 (by decide) ?_
    refine ih σ _ h0 h1 h2 h3 (fun i p hi hp => ?_) hS hF
    by_cases e : i = k
    · subst e
      rw [pk_cpy_in (by omega) (by omega), show 0 + (i * 7 + p - i * 7) = p by omega]
      exact l2 p hp
    · rw [pk_cpy_out (by omega)]
      exact hf i p (by omega) hp
