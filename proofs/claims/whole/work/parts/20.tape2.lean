theorem kindP_bad {tp : Nat → Nat} {tl i f : Nat} (hi : i ≤ tl) (h : kindP tp tl i = .inl f) : f ≤ tl := by
  have hs := sk_le (tp := tp) hi
  unfold kindP at h
  split at h
  · split at h
    · cases h; exact hs.2
    · cases h
  · cases h; exact hs.2
theorem sightP_bad {tp : Nat → Nat} {tl i f : Nat} (hi : i ≤ tl) (h : sightP tp tl i = .inl f) : f ≤ tl := by
  have hs := sk_le (tp := tp) hi
  unfold sightP at h
  split at h
  · cases h; exact hs.2
  · split at h
    · cases h
    · cases h; exact hs.2
theorem numP_bad {tp : Nat → Nat} {tl lo hh i f : Nat} (hi : i ≤ tl) (h : numP tp tl lo hh i = .inl f) : f ≤ tl := by
  have hs := sk_le (tp := tp) hi
  unfold numP at h
  split at h
  · cases h; exact hs.2
  · split at h
    · unfold chkP at h
      split at h
      · cases h; exact hs.2
      · cases h
    · unfold chkP at h
      split at h
      · cases h; exact hs.2
      · cases h
theorem behP_bad {tp : Nat → Nat} {tl c lo hh other i f : Nat} (hi : i ≤ tl) (h : behP tp tl c lo hh other i = .inl f) : f ≤ tl := by
  unfold behP at h
  split at h
  · rename_i hb
    simp only [takeB, decide_eq_true_eq] at hb
    exact numP_bad (by omega) h
  · cases h
theorem fI_nle {i : Nat} (h : i ≤ 1000) : ¬ 0 ≤ fI i := Int32.not_le.mpr (fI_neg h)
theorem fI_ne {i : Nat} (h : i ≤ 1000) : ¬ fI i = 0 := fun e => by have := fI_neg h; rw [e] at this; exact absurd this (by decide)
def res2 (r : Nat ⊕ (SA × Nat × Nat)) : Int32 := match r with
  | .inl f => fI f
  | .inr _ => nI 0
theorem takeE_t {tp : Nat → Nat} {tl c i : Nat} (h : takeB tp tl c i = true) : takeE tp tl c i = sk tp tl i + 1 := by rw [takeE, h]; rfl
theorem takeE_f {tp : Nat → Nat} {tl c i : Nat} (h : takeB tp tl c i = false) : takeE tp tl c i = sk tp tl i := by rw [takeE, h]; rfl
set_option maxHeartbeats 4000000 in
set_option maxRecDepth 100000 in
theorem c_X5_parsePuddles (l : Launch) (d : Nat) (X : Nat × (Nat → Int32)) (n : Nat) {σ : Wd} {b b' : Nat} {tp : Nat → Nat} {tl pl : Nat} {a : SA} {dr : Nat} (hT : Tp σ b tp tl pl) (hU : WT tp tl) (hpl : pl ≤ tl) (hS : St σ b' a 0 0 0 dr) (hb : b + 2 ≤ b' ∨ b' + 8 ≤ b) : CN l yX5_parsePuddles cX5_parsePuddles 6 (some .int) ((d + 5)) X n [.ref b, .ref b'] σ (fun v σ' => v = some (.int (res2 (pudP tp tl 7 a 0 pl))) ∧ (Eq2 b 2 b' 8 σ σ' ∧ (match pudP tp tl 7 a 0 pl with | .inl _ => ∃ pl' a' k', pl' ≤ tl ∧ k' ≤ 7 ∧ Tp σ' b tp tl pl' ∧ St σ' b' a' k' 0 0 dr | .inr q => q.2.1 ≤ 7 ∧ q.2.2 ≤ tl ∧ Tp σ' b tp tl q.2.2 ∧ St σ' b' q.1 q.2.1 0 0 dr))) := by
  refine CN.of (by decide) [some (.ref b), some (.ref b'), none, none, none, none] (fun _ => Nat.le_of_ble_eq_true rfl) (fun _ => rfl) (fun cx hc => ?_)
  have hU1 := hU.1
  obtain ⟨σ0, hσ0⟩ : ∃ z, z = σ := ⟨_, rfl⟩
  generalize hres : pudP tp tl 7 a 0 pl = res at *
  have key : ∀ j k a pl σ1, k + j = 7 → pl ≤ tl → pudP tp tl j a k pl = res → Tp σ1 b tp tl pl → St σ1 b' a k 0 0 dr → Eq2 b 2 b' 8 σ0 σ1 → R cx 0 0 n σ1 2 [some (.ref b), some (.ref b'), some (.int (nI k)), none, none, none] [] := by
    intro j
    induction j with
    | zero =>
      intro k a pl σ hk hpl e hT hS hF
      refine R.iload_n (j := 2) (i := 2) hc rfl rfl dX5_parsePuddles_2 ?_
      refine R.bipush hc bp_7 dX5_parsePuddles_3 ?_
      refine R.icmpN_ge (tgt := 81) hc dX5_parsePuddles_5 (by decide) (by omega) (by omega) (fun _ => ?_) (fun z => absurd (by omega) z)
      refine R.iconst hc ic_0 dX5_parsePuddles_81 ?_
      rw [pudP] at e
      subst e
      exact R.iret hc rfl dX5_parsePuddles_82 ⟨rfl, rfl, by rw [← hσ0]; exact hF, by show k ≤ 7; omega, hpl, hT, hS⟩
    | succ j ih =>
      intro k a pl σ hk hpl e hT hS hF
      rw [pudP] at e
      have go : ∀ i0 σ1, i0 ≤ tl → (match kindP tp tl i0 with
        | .inl f => .inl f
        | .inr q1 => match sightP tp tl q1.2 with
          | .inl f => .inl f
          | .inr q2 => match numP tp tl 0 60 q2.2 with
            | .inl f => .inl f
            | .inr q3 => pudP tp tl j (a3 a k q1.1 q2.1 q3.1) (k + 1) q3.2) = res → Tp σ1 b tp tl i0 → St σ1 b' a k 0 0 dr → Eq2 b 2 b' 8 σ0 σ1 → R cx 0 0 n σ1 23 [some (.ref b), some (.ref b'), some (.int (nI k)), none, none, none] [] := by
        clear e hT hS hF hpl σ
        intro i0 σ hpl e hT hS hF
        refine R.aload_n (j := 0) (i := 0) hc rfl rfl dX5_parsePuddles_23 ?_
        refine R.cVi hc m_X5_parseKind lk_X5_45 dX5_parsePuddles_24 (c_X5_parseKind l d X n hT hU hpl) (hT.obj) rfl rfl rfl (by omega) ⟨Nat.le_refl _, Nat.le_refl _⟩ (Nat.le_of_ble_eq_true rfl) (fun σ hX => ?_)
        obtain ⟨pl', hp1, hp2, hT, hE⟩ := hX
        have hS := SX.eqo hS hE (by omega)
        have hF := hF.l hE
        cases hk1 : kindP tp tl i0 with
        | inl f =>
          have hf := kindP_bad hpl hk1
          simp only [hk1] at e
          simp only [resI]
          refine R.istn3 hc dX5_parsePuddles_27 (by decide) rfl ?_
          refine R.iload_n (j := 3) (i := 3) hc rfl rfl dX5_parsePuddles_28 ?_
          refine R.if_ge (tgt := 34) hc dX5_parsePuddles_29 (by decide) (fun q => absurd q (fI_nle (by omega))) (fun _ => ?_)
          refine R.iload_n (j := 3) (i := 3) hc rfl rfl dX5_parsePuddles_32 ?_
          subst e
          exact R.iret hc rfl dX5_parsePuddles_33 ⟨rfl, rfl, by rw [← hσ0]; exact hF, pl', a, k, hp1, by omega, hT, hS⟩
        | inr q1 =>
          simp only [hk1] at e
          have ok1 := kindP_ok hpl hk1
          have hpl2 : pl' = q1.2 := hp2 q1 hk1
          subst hpl2
          simp only [resI]
          refine R.istn3 hc dX5_parsePuddles_27 (by decide) rfl ?_
          refine R.iload_n (j := 3) (i := 3) hc rfl rfl dX5_parsePuddles_28 ?_
          refine R.ifN_ge (tgt := 34) hc dX5_parsePuddles_29 (by decide) (by omega) ?_
          have hpl := hp1
          refine R.aload_n (j := 0) (i := 0) hc rfl rfl dX5_parsePuddles_34 ?_
          refine R.cVi hc m_X5_parseSight lk_X5_49 dX5_parsePuddles_35 (c_X5_parseSight l (d + 3) X n hT hU hpl) (hT.obj) rfl rfl rfl (by omega) ⟨Nat.le_refl _, Nat.le_refl _⟩ (Nat.le_of_ble_eq_true rfl) (fun σ hX => ?_)
          obtain ⟨pl', hp1, hp2, hT, hE⟩ := hX
          have hS := SX.eqo hS hE (by omega)
          have hF := hF.l hE
          cases hk2 : sightP tp tl q1.2 with
          | inl f =>
            have hf := sightP_bad hpl hk2
            simp only [hk2] at e
            simp only [resI]
            refine R.ist4 hc dX5_parsePuddles_38 (by decide) rfl ?_
            refine R.iload (i := 4) hc rfl dX5_parsePuddles_40 ?_
            refine R.if_ge (tgt := 48) hc dX5_parsePuddles_42 (by decide) (fun q => absurd q (fI_nle (by omega))) (fun _ => ?_)
            refine R.iload (i := 4) hc rfl dX5_parsePuddles_45 ?_
            subst e
            exact R.iret hc rfl dX5_parsePuddles_47 ⟨rfl, rfl, by rw [← hσ0]; exact hF, pl', a, k, hp1, by omega, hT, hS⟩
          | inr q2 =>
            simp only [hk2] at e
            have ok2 := sightP_ok hk2
            have hpl2 : pl' = q2.2 := hp2 q2 hk2
            subst hpl2
            simp only [resI]
            refine R.ist4 hc dX5_parsePuddles_38 (by decide) rfl ?_
            refine R.iload (i := 4) hc rfl dX5_parsePuddles_40 ?_
            refine R.ifN_ge (tgt := 48) hc dX5_parsePuddles_42 (by decide) (by omega) ?_
            have hpl := hp1
            refine R.aload_n (j := 0) (i := 0) hc rfl rfl dX5_parsePuddles_48 ?_
            refine R.iconst hc ic_0 dX5_parsePuddles_49 ?_
            refine R.bipush hc bp_60 dX5_parsePuddles_50 ?_
            refine R.cVi hc m_X5_parseNumber lk_X5_52 dX5_parsePuddles_52 (c_X5_parseNumber l (d + 3) X n hT hU hpl (by omega) (by omega)) (hT.obj) rfl rfl rfl (by omega) ⟨Nat.le_refl _, Nat.le_refl _⟩ (Nat.le_of_ble_eq_true rfl) (fun σ hX => ?_)
            obtain ⟨pl', hp1, hp2, hT, hE⟩ := hX
            have hS := SX.eqo hS hE (by omega)
            have hF := hF.l hE
            cases hk3 : numP tp tl 0 60 q2.2 with
            | inl f =>
              have hf := numP_bad hpl hk3
              simp only [hk3] at e
              simp only [resI]
              refine R.ist5 hc dX5_parsePuddles_55 (by decide) rfl ?_
              refine R.iload (i := 5) hc rfl dX5_parsePuddles_57 ?_
              refine R.if_ge (tgt := 65) hc dX5_parsePuddles_59 (by decide) (fun q => absurd q (fI_nle (by omega))) (fun _ => ?_)
              refine R.iload (i := 5) hc rfl dX5_parsePuddles_62 ?_
              subst e
              exact R.iret hc rfl dX5_parsePuddles_64 ⟨rfl, rfl, by rw [← hσ0]; exact hF, pl', a, k, hp1, by omega, hT, hS⟩
            | inr q3 =>
              simp only [hk3] at e
              have ok3 := numP_ok hk3
              have hpl2 : pl' = q3.2 := hp2 q3 hk3
              subst hpl2
              simp only [resI]
              refine R.ist5 hc dX5_parsePuddles_55 (by decide) rfl ?_
              refine R.iload (i := 5) hc rfl dX5_parsePuddles_57 ?_
              refine R.ifN_ge (tgt := 65) hc dX5_parsePuddles_59 (by decide) (by omega) ?_
              have hpl := hp1
              refine R.aload_n (j := 1) (i := 1) hc rfl rfl dX5_parsePuddles_65 ?_
              refine R.iload_n (j := 3) (i := 3) hc rfl rfl dX5_parsePuddles_66 ?_
              refine R.iload (i := 4) hc rfl dX5_parsePuddles_67 ?_
              refine R.iload (i := 5) hc rfl dX5_parsePuddles_69 ?_
              refine R.cVi hc m_X4_addPuddle lk_X5_56 dX5_parsePuddles_71 (c_X4_addPuddle l (d + 4) X n hS (by omega) (by omega)) (hS.obj) rfl rfl rfl (by omega) ⟨Nat.le_refl _, Nat.le_refl _⟩ (Nat.le_of_ble_eq_true rfl) (fun σ hX => ?_)
              obtain ⟨hS, hE⟩ := hX
              have hT := Tp.eqo hT hE (by omega)
              have hF := hF.r hE
              refine R.pop hc rfl dX5_parsePuddles_74 ?_
              refine R.iinc2 hc dX5_parsePuddles_75 (iiN1 _) (by decide) rfl ?_
              refine R.goto (tgt := 2) hc dX5_parsePuddles_78 (by decide) ?_
              exact R.fg3 (R.fg4 (R.fg5 (ih (k + 1) _ _ σ (by omega) hpl e hT hS hF)))
      refine R.iload_n (j := 2) (i := 2) hc rfl rfl dX5_parsePuddles_2 ?_
      refine R.bipush hc bp_7 dX5_parsePuddles_3 ?_
      refine R.icmpN_ge (tgt := 81) hc dX5_parsePuddles_5 (by decide) (by omega) (by omega) (fun z => absurd z (by omega)) (fun _ => ?_)
      refine R.iload_n (j := 2) (i := 2) hc rfl rfl dX5_parsePuddles_8 ?_
      refine R.ifN_le (tgt := 23) hc dX5_parsePuddles_9 (by decide) (by omega) (fun z => ?_) (fun z => ?_)
      · subst z
        exact go pl σ hpl (by rw [if_neg (by omega), if_pos rfl] at e; exact e) hT hS hF
      refine R.aload_n (j := 0) (i := 0) hc rfl rfl dX5_parsePuddles_12 ?_
      refine R.bipush hc bp_44 dX5_parsePuddles_13 ?_
      refine R.cVi hc m_X5_take lk_X5_31 dX5_parsePuddles_15 (c_X5_take l (d + 3) X n hT hU hpl (by decide)) (hT.obj) rfl rfl rfl (by omega) ⟨Nat.le_refl _, Nat.le_refl _⟩ (Nat.le_of_ble_eq_true rfl) (fun σ hX => ?_)
      obtain ⟨hT, hE⟩ := hX
      have hS := SX.eqo hS hE (by omega)
      have hF := hF.l hE
      have hte := takeE_le (tp := tp) (c := 44) hpl
      refine R.ifB_ne (tgt := 23) hc dX5_parsePuddles_18 (by decide) (fun y => ?_) (fun y => ?_)
      · rw [takeE_t y] at hT hte
        exact go _ σ hte (by rw [if_neg (by simp [y]), if_neg (by omega)] at e; exact e) hT hS hF
      · rw [takeE_f y] at hT hte
        rw [if_pos ⟨z, y⟩] at e
        subst e
        refine R.iconst hc ic_0 dX5_parsePuddles_21 ?_
        exact R.iret hc rfl dX5_parsePuddles_22 ⟨rfl, rfl, by rw [← hσ0]; exact hF, by show k ≤ 7; omega, hte, hT, hS⟩
  refine R.iconst hc ic_0 dX5_parsePuddles_0 ?_
  refine R.istn2 hc dX5_parsePuddles_1 (by decide) rfl ?_
  exact key 7 0 a pl σ rfl hpl hres hT hS (by rw [hσ0]; exact Eq2.rf)
set_option maxHeartbeats 4000000 in
set_option maxRecDepth 100000 in
theorem c_X5_parsePeople (l : Launch) (d : Nat) (X : Nat × (Nat → Int32)) (n : Nat) {σ : Wd} {b b' : Nat} {tp : Nat → Nat} {tl pl : Nat} {a : SA} {np dr : Nat} (hT : Tp σ b tp tl pl) (hU : WT tp tl) (hpl : pl ≤ tl) (hS : St σ b' a np 0 0 dr) (hb : b + 2 ≤ b' ∨ b' + 8 ≤ b) (hnp : np ≤ 7) : CN l yX5_parsePeople cX5_parsePeople 6 (some .int) ((d + 3)) X n [.ref b, .ref b'] σ (fun v σ' => v = some (.int (res2 (peoP tp tl 6 a 0 pl))) ∧ (Eq2 b 2 b' 8 σ σ' ∧ (match peoP tp tl 6 a 0 pl with | .inl _ => ∃ pl' a' k', pl' ≤ tl ∧ k' ≤ 6 ∧ Tp σ' b tp tl pl' ∧ St σ' b' a' np k' 0 dr | .inr q => q.2.1 ≤ 6 ∧ q.2.2 ≤ tl ∧ Tp σ' b tp tl q.2.2 ∧ St σ' b' q.1 np q.2.1 0 dr))) := by
  refine CN.of (by decide) [some (.ref b), some (.ref b'), none, none, none, none] (fun _ => Nat.le_of_ble_eq_true rfl) (fun _ => rfl) (fun cx hc => ?_)
  have hU1 := hU.1
  obtain ⟨σ0, hσ0⟩ : ∃ z, z = σ := ⟨_, rfl⟩
  generalize hres : peoP tp tl 6 a 0 pl = res at *
  have key : ∀ j k a pl σ1, k + j = 6 → pl ≤ tl → peoP tp tl j a k pl = res → Tp σ1 b tp tl pl → St σ1 b' a np k 0 dr → Eq2 b 2 b' 8 σ0 σ1 → R cx 0 0 n σ1 2 [some (.ref b), some (.ref b'), some (.int (nI k)), none, none, none] [] := by
    intro j
    induction j with
    | zero =>
      intro k a pl σ hk hpl e hT hS hF
      refine R.iload_n (j := 2) (i := 2) hc rfl rfl dX5_parsePeople_2 ?_
      refine R.bipush hc bp_6 dX5_parsePeople_3 ?_
      refine R.icmpN_ge (tgt := 110) hc dX5_parsePeople_5 (by decide) (by omega) (by omega) (fun _ => ?_) (fun z => absurd (by omega) z)
      refine R.iconst hc ic_0 dX5_parsePeople_110 ?_
      rw [peoP] at e
      subst e
      exact R.iret hc rfl dX5_parsePeople_111 ⟨rfl, rfl, by rw [← hσ0]; exact hF, by show k ≤ 6; omega, hpl, hT, hS⟩
    | succ j ih =>
      intro k a pl σ hk hpl e hT hS hF
      rw [peoP] at e
      have go : ∀ i0 σ1, i0 ≤ tl → (match sightP tp tl i0 with
        | .inl f => .inl f
        | .inr q1 => match behP tp tl 64 0 20 0 q1.2 with
          | .inl f => .inl f
          | .inr q2 => match behP tp tl 47 1 30 1 q2.2 with
            | .inl f => .inl f
            | .inr q3 => peoP tp tl j (a4 a k q1.1 q2.1 q3.1) (k + 1) q3.2) = res → Tp σ1 b tp tl i0 → St σ1 b' a np k 0 dr → Eq2 b 2 b' 8 σ0 σ1 → R cx 0 0 n σ1 23 [some (.ref b), some (.ref b'), some (.int (nI k)), none, none, none] [] := by
        clear e hT hS hF hpl σ
        intro i0 σ hpl e hT hS hF
        refine R.aload_n (j := 0) (i := 0) hc rfl rfl dX5_parsePeople_23 ?_
        refine R.cVi hc m_X5_parseSight lk_X5_49 dX5_parsePeople_24 (c_X5_parseSight l (d + 1) X n hT hU hpl) (hT.obj) rfl rfl rfl (by omega) ⟨Nat.le_refl _, Nat.le_refl _⟩ (Nat.le_of_ble_eq_true rfl) (fun σ hX => ?_)
        obtain ⟨pl', hp1, hp2, hT, hE⟩ := hX
        have hS := SX.eqo hS hE (by omega)
        have hF := hF.l hE
        cases hk1 : sightP tp tl i0 with
        | inl f =>
          have hf := sightP_bad hpl hk1
          simp only [hk1] at e
          simp only [resI]
          refine R.istn3 hc dX5_parsePeople_27 (by decide) rfl ?_
          refine R.iload_n (j := 3) (i := 3) hc rfl rfl dX5_parsePeople_28 ?_
          refine R.if_ge (tgt := 34) hc dX5_parsePeople_29 (by decide) (fun q => absurd q (fI_nle (by omega))) (fun _ => ?_)
          refine R.iload_n (j := 3) (i := 3) hc rfl rfl dX5_parsePeople_32 ?_
          subst e
          exact R.iret hc rfl dX5_parsePeople_33 ⟨rfl, rfl, by rw [← hσ0]; exact hF, pl', a, k, hp1, by omega, hT, hS⟩
        | inr q1 =>
          simp only [hk1] at e
          have ok1 := sightP_ok hk1
          have hpl2 : pl' = q1.2 := hp2 q1 hk1
          subst hpl2
          simp only [resI]
          refine R.istn3 hc dX5_parsePeople_27 (by decide) rfl ?_
          refine R.iload_n (j := 3) (i := 3) hc rfl rfl dX5_parsePeople_28 ?_
          refine R.ifN_ge (tgt := 34) hc dX5_parsePeople_29 (by decide) (by omega) ?_
          have hpl := hp1
          have at9 : ∀ σ1 pl', pl' ≤ tl → (∀ q, behP tp tl 64 0 20 0 q1.2 = .inr q → pl' = q.2) → Tp σ1 b tp tl pl' → St σ1 b' a np k 0 dr → Eq2 b 2 b' 8 σ0 σ1 → R cx 0 0 n σ1 54 [some (.ref b), some (.ref b'), some (.int (nI k)), some (.int (nI q1.1)), none, none] [.int (resI (behP tp tl 64 0 20 0 q1.2))] := by
            clear hT hS hF hp2 hE hp1
            intro σ pl' hp1 hp2 hT hS hF
            cases hk2 : behP tp tl 64 0 20 0 q1.2 with
            | inl f =>
              have hf := behP_bad hpl hk2
              simp only [hk2] at e
              simp only [resI]
              refine R.ist4 hc dX5_parsePeople_54 (by decide) rfl ?_
              refine R.iload (i := 4) hc rfl dX5_parsePeople_56 ?_
              refine R.if_ge (tgt := 64) hc dX5_parsePeople_58 (by decide) (fun q => absurd q (fI_nle (by omega))) (fun _ => ?_)
              refine R.iload (i := 4) hc rfl dX5_parsePeople_61 ?_
              subst e
              exact R.iret hc rfl dX5_parsePeople_63 ⟨rfl, rfl, by rw [← hσ0]; exact hF, pl', a, k, hp1, by omega, hT, hS⟩
            | inr q2 =>
              simp only [hk2] at e
              have ok2 := behP_ok hpl (by omega) hk2
              have hpl2 : pl' = q2.2 := hp2 q2 hk2
              subst hpl2
              simp only [resI]
              refine R.ist4 hc dX5_parsePeople_54 (by decide) rfl ?_
              refine R.iload (i := 4) hc rfl dX5_parsePeople_56 ?_
              refine R.ifN_ge (tgt := 64) hc dX5_parsePeople_58 (by decide) (by omega) ?_
              have hpl := hp1
              have at9 : ∀ σ1 pl', pl' ≤ tl → (∀ q, behP tp tl 47 1 30 1 q2.2 = .inr q → pl' = q.2) → Tp σ1 b tp tl pl' → St σ1 b' a np k 0 dr → Eq2 b 2 b' 8 σ0 σ1 → R cx 0 0 n σ1 84 [some (.ref b), some (.ref b'), some (.int (nI k)), some (.int (nI q1.1)), some (.int (nI q2.1)), none] [.int (resI (behP tp tl 47 1 30 1 q2.2))] := by
                clear hT hS hF hp2 hp1
                intro σ pl' hp1 hp2 hT hS hF
                cases hk3 : behP tp tl 47 1 30 1 q2.2 with
                | inl f =>
                  have hf := behP_bad hpl hk3
                  simp only [hk3] at e
                  simp only [resI]
                  refine R.ist5 hc dX5_parsePeople_84 (by decide) rfl ?_
                  refine R.iload (i := 5) hc rfl dX5_parsePeople_86 ?_
                  refine R.if_ge (tgt := 94) hc dX5_parsePeople_88 (by decide) (fun q => absurd q (fI_nle (by omega))) (fun _ => ?_)
                  refine R.iload (i := 5) hc rfl dX5_parsePeople_91 ?_
                  subst e
                  exact R.iret hc rfl dX5_parsePeople_93 ⟨rfl, rfl, by rw [← hσ0]; exact hF, pl', a, k, hp1, by omega, hT, hS⟩
                | inr q3 =>
                  simp only [hk3] at e
                  have ok3 := behP_ok hpl (by omega) hk3
                  have hpl2 : pl' = q3.2 := hp2 q3 hk3
                  subst hpl2
                  simp only [resI]
                  refine R.ist5 hc dX5_parsePeople_84 (by decide) rfl ?_
                  refine R.iload (i := 5) hc rfl dX5_parsePeople_86 ?_
                  refine R.ifN_ge (tgt := 94) hc dX5_parsePeople_88 (by decide) (by omega) ?_
                  have hpl := hp1
                  refine R.aload_n (j := 1) (i := 1) hc rfl rfl dX5_parsePeople_94 ?_
                  refine R.iload_n (j := 3) (i := 3) hc rfl rfl dX5_parsePeople_95 ?_
                  refine R.iload (i := 4) hc rfl dX5_parsePeople_96 ?_
                  refine R.iload (i := 5) hc rfl dX5_parsePeople_98 ?_
                  refine R.cVi hc m_X4_addPerson lk_X5_60 dX5_parsePeople_100 (c_X4_addPerson l (d + 2) X n hS (by omega) (by omega)) (hS.obj) rfl rfl rfl (by omega) ⟨Nat.le_refl _, Nat.le_refl _⟩ (Nat.le_of_ble_eq_true rfl) (fun σ hX => ?_)
                  obtain ⟨hS, hE⟩ := hX
                  have hT := Tp.eqo hT hE (by omega)
                  have hF := hF.r hE
                  refine R.pop hc rfl dX5_parsePeople_103 ?_
                  refine R.iinc2 hc dX5_parsePeople_104 (iiN1 _) (by decide) rfl ?_
                  refine R.goto (tgt := 2) hc dX5_parsePeople_107 (by decide) ?_
                  exact R.fg3 (R.fg4 (R.fg5 (ih (k + 1) _ _ σ (by omega) hpl e hT hS hF)))
              refine R.aload_n (j := 0) (i := 0) hc rfl rfl dX5_parsePeople_64 ?_
              refine R.bipush hc bp_47 dX5_parsePeople_65 ?_
              refine R.cVi hc m_X5_take lk_X5_31 dX5_parsePeople_67 (c_X5_take l (d + 1) X n hT hU hpl (by decide)) (hT.obj) rfl rfl rfl (by omega) ⟨Nat.le_refl _, Nat.le_refl _⟩ (Nat.le_of_ble_eq_true rfl) (fun σ hX => ?_)
              obtain ⟨hT, hE⟩ := hX
              have hS := SX.eqo hS hE (by omega)
              have hF := hF.l hE
              have hte := takeE_le (tp := tp) (c := 47) hpl
              refine R.ifB_eq (tgt := 83) hc dX5_parsePeople_70 (by decide) (fun y => ?_) (fun y => ?_)
              · rw [takeE_f y] at hT hte
                refine R.iconst hc ic_1 dX5_parsePeople_83 ?_
                have e9 : nI 1 = resI (behP tp tl 47 1 30 1 q2.2) := by rw [behP, y]; rfl
                rw [e9]
                exact at9 σ _ hte (fun q hq => by rw [behP, y] at hq; cases hq; rfl) hT hS hF
              · rw [takeE_t y] at hT hte
                have hpl := hte
                refine R.aload_n (j := 0) (i := 0) hc rfl rfl dX5_parsePeople_73 ?_
                refine R.iconst hc ic_1 dX5_parsePeople_74 ?_
                refine R.bipush hc bp_30 dX5_parsePeople_75 ?_
                refine R.cVi hc m_X5_parseNumber lk_X5_52 dX5_parsePeople_77 (c_X5_parseNumber l (d + 1) X n hT hU hpl (by omega) (by omega)) (hT.obj) rfl rfl rfl (by omega) ⟨Nat.le_refl _, Nat.le_refl _⟩ (Nat.le_of_ble_eq_true rfl) (fun σ hX => ?_)
                obtain ⟨pl', hp1, hp2, hT, hE⟩ := hX
                have hS := SX.eqo hS hE (by omega)
                have hF := hF.l hE
                refine R.goto (tgt := 84) hc dX5_parsePeople_80 (by decide) ?_
                have e9 : numP tp tl 1 30 (sk tp tl q2.2 + 1) = behP tp tl 47 1 30 1 q2.2 := by rw [behP, y]; rfl
                rw [e9] at hp2 ⊢
                exact at9 σ _ hp1 hp2 hT hS hF
          refine R.aload_n (j := 0) (i := 0) hc rfl rfl dX5_parsePeople_34 ?_
          refine R.bipush hc bp_64 dX5_parsePeople_35 ?_
          refine R.cVi hc m_X5_take lk_X5_31 dX5_parsePeople_37 (c_X5_take l (d + 1) X n hT hU hpl (by decide)) (hT.obj) rfl rfl rfl (by omega) ⟨Nat.le_refl _, Nat.le_refl _⟩ (Nat.le_of_ble_eq_true rfl) (fun σ hX => ?_)
          obtain ⟨hT, hE⟩ := hX
          have hS := SX.eqo hS hE (by omega)
          have hF := hF.l hE
          have hte := takeE_le (tp := tp) (c := 64) hpl
          refine R.ifB_eq (tgt := 53) hc dX5_parsePeople_40 (by decide) (fun y => ?_) (fun y => ?_)
          · rw [takeE_f y] at hT hte
            refine R.iconst hc ic_0 dX5_parsePeople_53 ?_
            have e9 : nI 0 = resI (behP tp tl 64 0 20 0 q1.2) := by rw [behP, y]; rfl
            rw [e9]
            exact at9 σ _ hte (fun q hq => by rw [behP, y] at hq; cases hq; rfl) hT hS hF
          · rw [takeE_t y] at hT hte
            have hpl := hte
            refine R.aload_n (j := 0) (i := 0) hc rfl rfl dX5_parsePeople_43 ?_
            refine R.iconst hc ic_0 dX5_parsePeople_44 ?_
            refine R.bipush hc bp_20 dX5_parsePeople_45 ?_
            refine R.cVi hc m_X5_parseNumber lk_X5_52 dX5_parsePeople_47 (c_X5_parseNumber l (d + 1) X n hT hU hpl (by omega) (by omega)) (hT.obj) rfl rfl rfl (by omega) ⟨Nat.le_refl _, Nat.le_refl _⟩ (Nat.le_of_ble_eq_true rfl) (fun σ hX => ?_)
            obtain ⟨pl', hp1, hp2, hT, hE⟩ := hX
            have hS := SX.eqo hS hE (by omega)
            have hF := hF.l hE
            refine R.goto (tgt := 54) hc dX5_parsePeople_50 (by decide) ?_
            have e9 : numP tp tl 0 20 (sk tp tl q1.2 + 1) = behP tp tl 64 0 20 0 q1.2 := by rw [behP, y]; rfl
            rw [e9] at hp2 ⊢
            exact at9 σ _ hp1 hp2 hT hS hF
      refine R.iload_n (j := 2) (i := 2) hc rfl rfl dX5_parsePeople_2 ?_
      refine R.bipush hc bp_6 dX5_parsePeople_3 ?_
      refine R.icmpN_ge (tgt := 110) hc dX5_parsePeople_5 (by decide) (by omega) (by omega) (fun z => absurd z (by omega)) (fun _ => ?_)
      refine R.iload_n (j := 2) (i := 2) hc rfl rfl dX5_parsePeople_8 ?_
      refine R.ifN_le (tgt := 23) hc dX5_parsePeople_9 (by decide) (by omega) (fun z => ?_) (fun z => ?_)
      · subst z
        exact go pl σ hpl (by rw [if_neg (by omega), if_pos rfl] at e; exact e) hT hS hF
      refine R.aload_n (j := 0) (i := 0) hc rfl rfl dX5_parsePeople_12 ?_
      refine R.bipush hc bp_44 dX5_parsePeople_13 ?_
      refine R.cVi hc m_X5_take lk_X5_31 dX5_parsePeople_15 (c_X5_take l (d + 1) X n hT hU hpl (by decide)) (hT.obj) rfl rfl rfl (by omega) ⟨Nat.le_refl _, Nat.le_refl _⟩ (Nat.le_of_ble_eq_true rfl) (fun σ hX => ?_)
      obtain ⟨hT, hE⟩ := hX
      have hS := SX.eqo hS hE (by omega)
      have hF := hF.l hE
      have hte := takeE_le (tp := tp) (c := 44) hpl
      refine R.ifB_ne (tgt := 23) hc dX5_parsePeople_18 (by decide) (fun y => ?_) (fun y => ?_)
      · rw [takeE_t y] at hT hte
        exact go _ σ hte (by rw [if_neg (by simp [y]), if_neg (by omega)] at e; exact e) hT hS hF
      · rw [takeE_f y] at hT hte
        rw [if_pos ⟨z, y⟩] at e
        subst e
        refine R.iconst hc ic_0 dX5_parsePeople_21 ?_
        exact R.iret hc rfl dX5_parsePeople_22 ⟨rfl, rfl, by rw [← hσ0]; exact hF, by show k ≤ 6; omega, hte, hT, hS⟩
  refine R.iconst hc ic_0 dX5_parsePeople_0 ?_
  refine R.istn2 hc dX5_parsePeople_1 (by decide) rfl ?_
  exact key 6 0 a pl σ rfl hpl hres hT hS (by rw [hσ0]; exact Eq2.rf)
