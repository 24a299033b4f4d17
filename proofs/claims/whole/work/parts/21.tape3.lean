/-- the street that was read, or any -/
def rdOK (res : Nat ⊕ (SA × Nat × Nat)) (σ' : Wd) (b' dr : Nat) : Prop := match res with
  | .inl _ => ∃ (a' : SA) (k' m' : Nat), k' ≤ 7 ∧ m' ≤ 6 ∧ St σ' b' a' k' m' 0 dr
  | .inr q => q.2.1 ≤ 7 ∧ q.2.2 ≤ 6 ∧ St σ' b' q.1 q.2.1 q.2.2 0 dr
theorem rdOK.eqo {res : Nat ⊕ (SA × Nat × Nat)} {σ σ' : Wd} {b b' m dr : Nat} (h : rdOK res σ b' dr) (e : Eqo b m σ σ') (hb : b' + 8 ≤ b ∨ b + m ≤ b') : rdOK res σ' b' dr := by
  cases res with
  | inl f =>
    obtain ⟨a', k', m', h1, h2, h3⟩ := h
    exact ⟨a', k', m', h1, h2, SX.eqo h3 e hb⟩
  | inr q =>
    obtain ⟨h1, h2, h3⟩ := h
    exact ⟨h1, h2, SX.eqo h3 e hb⟩
theorem pudP_bad (tp : Nat → Nat) (tl : Nat) : ∀ j a k i f, i ≤ tl → pudP tp tl j a k i = .inl f → f ≤ tl := by
  intro j
  induction j with
  | zero => intro a k i f _ h; rw [pudP] at h; cases h
  | succ j ih =>
    intro a k i f hi h
    rw [pudP] at h
    have hs := sk_le (tp := tp) hi
    split at h
    · cases h
    · rename_i hn
      have hx : (if k = 0 then i else sk tp tl i + 1) ≤ tl := by
        split
        · exact hi
        · rename_i hk
          have hb : takeB tp tl 44 i = true := by
            cases hz : takeB tp tl 44 i
            · exact absurd ⟨by omega, hz⟩ hn
            · rfl
          simp only [takeB, decide_eq_true_eq] at hb
          omega
      split at h
      · rename_i f1 h1; cases h; exact kindP_bad hx h1
      · rename_i q1 h1
        have o1 := kindP_ok hx h1
        split at h
        · rename_i f2 h2; cases h; exact sightP_bad o1.2 h2
        · rename_i q2 h2
          have o2 := sightP_ok h2
          split at h
          · rename_i f3 h3; cases h; exact numP_bad o2.2 h3
          · rename_i q3 h3
            exact ih _ _ _ _ (numP_ok h3).2.2 h
theorem peoP_bad (tp : Nat → Nat) (tl : Nat) : ∀ j a k i f, i ≤ tl → peoP tp tl j a k i = .inl f → f ≤ tl := by
  intro j
  induction j with
  | zero => intro a k i f _ h; rw [peoP] at h; cases h
  | succ j ih =>
    intro a k i f hi h
    rw [peoP] at h
    have hs := sk_le (tp := tp) hi
    split at h
    · cases h
    · rename_i hn
      have hx : (if k = 0 then i else sk tp tl i + 1) ≤ tl := by
        split
        · exact hi
        · rename_i hk
          have hb : takeB tp tl 44 i = true := by
            cases hz : takeB tp tl 44 i
            · exact absurd ⟨by omega, hz⟩ hn
            · rfl
          simp only [takeB, decide_eq_true_eq] at hb
          omega
      split at h
      · rename_i f1 h1; cases h; exact sightP_bad hx h1
      · rename_i q1 h1
        have o1 := sightP_ok h1
        split at h
        · rename_i f2 h2; cases h; exact behP_bad o1.2 h2
        · rename_i q2 h2
          have o2 := behP_ok o1.2 (by omega) h2
          split at h
          · rename_i f3 h3; cases h; exact behP_bad o2.2.2 h3
          · rename_i q3 h3
            exact ih _ _ _ _ (behP_ok o2.2.2 (by omega) h3).2.2 h
set_option maxHeartbeats 4000000 in
set_option maxRecDepth 100000 in
theorem c_X5_parse (l : Launch) (d : Nat) (X : Nat × (Nat → Int32)) (n : Nat) {σ : Wd} {b b' : Nat} {tp : Nat → Nat} {tl pl : Nat} {a : SA} {np nq hr dr : Nat} (hT : Tp σ b tp tl pl) (hU : WT tp tl) (hS : St σ b' a np nq hr dr) (hb : b + 2 ≤ b' ∨ b' + 8 ≤ b) : CN l yX5_parse cX5_parse 3 (some .int) ((d + 6)) X n [.ref b, .ref b'] σ (fun v σ' => v = some (.int (res2 (readP tp tl))) ∧ (Eq2 b 2 b' 8 σ σ' ∧ (∃ pl', Tp σ' b tp 0 pl') ∧ rdOK (readP tp tl) σ' b' dr)) := by
  refine CN.of (by decide) [some (.ref b), some (.ref b'), none] (fun _ => Nat.le_of_ble_eq_true rfl) (fun _ => rfl) (fun cx hc => ?_)
  have hU1 := hU.1
  obtain ⟨σ0, hσ0⟩ : ∃ z, z = σ := ⟨_, rfl⟩
  generalize hres : readP tp tl = res at *
  have fin : ∀ (σ1 : Wd) (pl' : Nat) (z9 : Int32), Tp σ1 b tp tl pl' → Eq2 b 2 b' 8 σ0 σ1 → z9 = res2 res → rdOK res σ1 b' dr → R cx 0 0 n σ1 65 [some (.ref b), some (.ref b'), some (.int z9)] [] := by
    intro σ pl' z9 hT hF hx hm
    refine R.aload_n (j := 0) (i := 0) hc rfl rfl dX5_parse_65 ?_
    refine R.iconst hc ic_0 dX5_parse_66 ?_
    refine R.putW hc gf_X5_15 dX5_parse_67 (hT.p1 0 (Nat.zero_le _)) (fun _ => rfl) (fun _ => rfl) (fun σ hX => ?_)
    obtain ⟨hT, hE⟩ := hX
    refine R.iload_n (j := 2) (i := 2) hc rfl rfl dX5_parse_70 ?_
    refine R.iret hc rfl dX5_parse_71 ⟨rfl, by rw [hx], by rw [← hσ0]; exact hF.l hE, ⟨_, hT⟩, ?_⟩
    exact hm.eqo hE (by omega)
  have tail : ∀ σ1 pl a np nq, pl ≤ tl → np ≤ 7 → nq ≤ 6 → finP tp tl a np nq pl = res → Tp σ1 b tp tl pl → St σ1 b' a np nq 0 dr → Eq2 b 2 b' 8 σ0 σ1 → R cx 0 0 n σ1 34 [some (.ref b), some (.ref b'), some (.int (nI 0))] [] := by
    intro σ pl a np nq hpl h7 h6 e hT hS hF
    have hs := sk_le (tp := tp) hpl
    refine R.iload_n (j := 2) (i := 2) hc rfl rfl dX5_parse_34 ?_
    refine R.ifN_ne (tgt := 65) hc dX5_parse_35 (by decide) (by decide) (fun q => absurd rfl q) (fun _ => ?_)
    refine R.aload_n (j := 0) (i := 0) hc rfl rfl dX5_parse_38 ?_
    refine R.cVu hc m_X5_skipBlanks lk_X5_38 dX5_parse_39 (c_X5_skipBlanks l (d + 5) X n hT hU hpl) (hT.obj) rfl rfl rfl (by omega) ⟨Nat.le_refl _, Nat.le_refl _⟩ (Nat.le_of_ble_eq_true rfl) (fun σ hX => ?_)
    obtain ⟨hT, hE⟩ := hX
    have hS := SX.eqo hS hE (by omega)
    have hF := hF.l hE
    refine R.aload_n (j := 0) (i := 0) hc rfl rfl dX5_parse_42 ?_
    refine R.get hc gf_X5_19_r dX5_parse_43 (hT.obj) rfl ?_
    refine R.aload_n (j := 0) (i := 0) hc rfl rfl dX5_parse_46 ?_
    refine R.get hc gf_X5_15_r dX5_parse_47 (hT.obj) rfl ?_
    refine R.icmpN_ge (tgt := 63) hc dX5_parse_50 (by decide) (by omega) (by omega) (fun z => ?_) (fun z => ?_)
    · refine R.iconst hc ic_0 dX5_parse_63 ?_
      refine R.istn2 hc dX5_parse_64 (by decide) rfl ?_
      rw [finP, if_neg (by omega)] at e
      subst e
      exact fin σ _ _ hT hF rfl ⟨h7, h6, hS⟩
    · refine R.aload_n (j := 0) (i := 0) hc rfl rfl dX5_parse_53 ?_
      refine R.get hc gf_X5_19_r dX5_parse_54 (hT.obj) rfl ?_
      refine R.cSr hc m_X5_faultAt lk_X5_41 dX5_parse_57 (c_X5_faultAt l (d + 5) X n _) rfl rfl (by omega) ⟨Nat.le_refl _, Nat.le_refl _⟩ (Nat.le_of_ble_eq_true rfl) ?_
      refine R.goto (tgt := 64) hc dX5_parse_60 (by decide) ?_
      refine R.istn2 hc dX5_parse_64 (by decide) rfl ?_
      rw [finP, if_pos (by omega)] at e
      subst e
      exact fin σ _ _ hT hF rfl ⟨a, np, nq, h7, h6, hS⟩
  have bad : ∀ σ1 pl f a' k' m', f ≤ tl → res = .inl f → Tp σ1 b tp tl pl → k' ≤ 7 → m' ≤ 6 → St σ1 b' a' k' m' 0 dr → Eq2 b 2 b' 8 σ0 σ1 → R cx 0 0 n σ1 34 [some (.ref b), some (.ref b'), some (.int (fI f))] [] := by
    intro σ pl f a' k' m' hf e hT hk hm hS hF
    refine R.iload_n (j := 2) (i := 2) hc rfl rfl dX5_parse_34 ?_
    refine R.if_ne (tgt := 65) hc dX5_parse_35 (by decide) (fun _ => ?_) (fun q => absurd q (fI_ne (by omega)))
    subst e
    exact fin σ _ _ hT hF rfl ⟨a', k', m', hk, hm, hS⟩
  refine R.aload_n (j := 0) (i := 0) hc rfl rfl dX5_parse_0 ?_
  refine R.iconst hc ic_0 dX5_parse_1 ?_
  refine R.putW hc gf_X5_19 dX5_parse_2 (hT.p2 _) (fun _ => rfl) (fun _ => rfl) (fun σ hX => ?_)
  obtain ⟨hT, hE⟩ := hX
  have hS := SX.eqo hS hE (by omega)
  have hF : Eq2 b 2 b' 8 σ0 σ := by rw [hσ0]; exact Eq2.rf.l hE
  refine R.aload_n (j := 1) (i := 1) hc rfl rfl dX5_parse_5 ?_
  refine R.cVu hc m_X4_empty lk_X5_22 dX5_parse_6 (c_X4_empty l (d + 5) X n hS) (hS.obj) rfl rfl rfl (by omega) ⟨Nat.le_refl _, Nat.le_refl _⟩ (Nat.le_of_ble_eq_true rfl) (fun σ hX => ?_)
  obtain ⟨hS, hE⟩ := hX
  have hS : St σ b' (fun _ _ => 0) 0 0 0 dr := hS.ext (Nat.le_refl _) (Nat.le_refl _) (fun k _ p hp => absurd hp (by omega)) (fun k _ _ p hp => absurd hp (by omega))
  have hT := Tp.eqo hT hE (by omega)
  have hF := hF.r hE
  refine R.aload_n (j := 0) (i := 0) hc rfl rfl dX5_parse_9 ?_
  refine R.aload_n (j := 1) (i := 1) hc rfl rfl dX5_parse_10 ?_
  refine R.cVi hc m_X5_parsePuddles lk_X5_27 dX5_parse_11 (c_X5_parsePuddles l d X n hT hU (Nat.zero_le _) hS hb) (hT.obj) rfl rfl rfl (by omega) ⟨Nat.le_refl _, Nat.le_refl _⟩ (Nat.le_of_ble_eq_true rfl) (fun σ hX => ?_)
  obtain ⟨hE2, hm⟩ := hX
  have hF : Eq2 b 2 b' 8 σ0 σ := fun j h1 h2 => (hE2 j h1 h2).trans (hF j h1 h2)
  rw [readP] at hres
  cases hp : pudP tp tl 7 (fun _ _ => 0) 0 0 with
  | inl f =>
    simp only [hp] at hres hm
    obtain ⟨pl', a', k', g1, g2, g3, g4⟩ := hm
    have hf : f ≤ tl := pudP_bad tp tl 7 _ 0 0 f (Nat.zero_le _) hp
    simp only [res2]
    refine R.istn2 hc dX5_parse_14 (by decide) rfl ?_
    refine R.iload_n (j := 2) (i := 2) hc rfl rfl dX5_parse_15 ?_
    refine R.if_ne (tgt := 34) hc dX5_parse_16 (by decide) (fun _ => ?_) (fun q => absurd q (fI_ne (by omega)))
    exact bad σ pl' f a' k' 0 hf hres.symm g3 g2 (by omega) g4 hF
  | inr q =>
    simp only [hp] at hres hm
    obtain ⟨hq7, hpl, hT, hS⟩ := hm
    simp only [res2]
    refine R.istn2 hc dX5_parse_14 (by decide) rfl ?_
    refine R.iload_n (j := 2) (i := 2) hc rfl rfl dX5_parse_15 ?_
    refine R.ifN_ne (tgt := 34) hc dX5_parse_16 (by decide) (by decide) (fun q => absurd rfl q) (fun _ => ?_)
    refine R.aload_n (j := 0) (i := 0) hc rfl rfl dX5_parse_19 ?_
    refine R.bipush hc bp_59 dX5_parse_20 ?_
    refine R.cVi hc m_X5_take lk_X5_31 dX5_parse_22 (c_X5_take l (d + 4) X n hT hU hpl (by decide)) (hT.obj) rfl rfl rfl (by omega) ⟨Nat.le_refl _, Nat.le_refl _⟩ (Nat.le_of_ble_eq_true rfl) (fun σ hX => ?_)
    obtain ⟨hT, hE⟩ := hX
    have hS := SX.eqo hS hE (by omega)
    have hF := hF.l hE
    have hte := takeE_le (tp := tp) (c := 59) hpl
    refine R.ifB_eq (tgt := 34) hc dX5_parse_25 (by decide) (fun y => ?_) (fun y => ?_)
    · rw [takeE_f y] at hT hte
      rw [y] at hres
      exact tail σ _ _ _ 0 hte hq7 (by omega) hres hT hS hF
    · rw [takeE_t y] at hT hte
      rw [y] at hres
      simp only [if_true] at hres
      have hpl := hte
      refine R.aload_n (j := 0) (i := 0) hc rfl rfl dX5_parse_28 ?_
      refine R.aload_n (j := 1) (i := 1) hc rfl rfl dX5_parse_29 ?_
      refine R.cVi hc m_X5_parsePeople lk_X5_35 dX5_parse_30 (c_X5_parsePeople l (d + 2) X n hT hU hpl hS hb hq7) (hT.obj) rfl rfl rfl (by omega) ⟨Nat.le_refl _, Nat.le_refl _⟩ (Nat.le_of_ble_eq_true rfl) (fun σ hX => ?_)
      obtain ⟨hE2, hm⟩ := hX
      have hF : Eq2 b 2 b' 8 σ0 σ := fun j h1 h2 => (hE2 j h1 h2).trans (hF j h1 h2)
      cases hp2 : peoP tp tl 6 q.1 0 (sk tp tl q.2.2 + 1) with
      | inl f =>
        simp only [hp2] at hres hm
        obtain ⟨pl', a', k', g1, g2, g3, g4⟩ := hm
        have hf : f ≤ tl := peoP_bad tp tl 6 _ 0 _ f hte hp2
        simp only [res2]
        refine R.istn2 hc dX5_parse_33 (by decide) rfl ?_
        exact bad σ pl' f a' _ k' hf hres.symm g3 hq7 g2 g4 hF
      | inr r =>
        simp only [hp2] at hres hm
        obtain ⟨hr6, hpl2, hT, hS⟩ := hm
        simp only [res2]
        refine R.istn2 hc dX5_parse_33 (by decide) rfl ?_
        exact tail σ _ _ _ _ hpl2 hq7 hr6 hres hT hS hF
