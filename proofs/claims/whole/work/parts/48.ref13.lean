/-- people read: as PeG, with what is theirs alone, the puddles as they were -/
def PeH (b0 b : SA) (k : Nat) (g : Nat → Int32) : Prop := PeG b k g ∧ (∀ p, p < k → b 6 p = 0) ∧ ∀ j, j < 3 → ∀ p, b j p = b0 j p
set_option maxHeartbeats 4000000 in
set_option maxRecDepth 100000 in
theorem c_X7_peopleRead (l : Launch) (d : Nat) (X : Nat × (Nat → Int32)) (n : Nat) {σ : Wd} {A : Nat → Nat → Int32} {L : Nat → Nat → Int64} {I : Nat → Int32} (hR : RW σ A L I) {tp : Nat → Nat} {tl : Nat} (hT : ∀ j, j < tl → A 2 j = nI (tp j)) (hU : WT tp tl) (h0 : I 0 = nI tl) {pl : Nat} (h1 : I 1 = nI pl) (hpl : pl ≤ tl) (h2 : I 2 = b2 false) (b0 : SA) : CN l yX7_peopleRead cX7_peopleRead 5 (some .int) ((d + 3)) X n [.ref 42] σ (fun v σ' => LsR tp tl (peoP tp tl 6 b0 0 pl) σ σ' 4 A L I (PeH b0) v) := by
  refine CN.of (by decide) [some (.ref 42), none, none, none, none] (fun _ => Nat.le_of_ble_eq_true rfl) (fun _ => rfl) (fun cx hc => ?_)
  have hU1 := hU.1
  have hT9 := hT
  have h09 := h0
  obtain ⟨σ0, hσ0⟩ : ∃ z, z = σ := ⟨_, rfl⟩
  rw [← hσ0] at hc
  have hF : Eqo 42 17 σ0 σ := by rw [hσ0]; exact Eqo.rf
  obtain ⟨res, hres⟩ : ∃ z, z = peoP tp tl 6 b0 0 pl := ⟨_, rfl⟩
  rw [← hres] at hc
  have F2 : ∀ (σ : Wd) (B : Nat → Nat → Int32) (J : Nat → Int32) (e x : Nat) (v2 v3 v4 : Option Value), nl v2 ∧ nl v3 → (∀ v : Option Value, ∀ σ' : Wd, (∃ x, v = some (.int x)) → PL9 σ0 σ' 4 A L I e true (fun _ => True) → LsR tp tl res σ0 σ' 4 A L I (PeH b0) v) → RW σ B L J → (∀ k, k ≠ 4 → B k = A k) → J 1 = nI e → J 2 = b2 true → (∀ k, k ≠ 1 → k ≠ 2 → J k = I k) → Eqo 42 17 σ0 σ → R cx 0 0 n σ 2 [some (.ref 42), some (.int (nI x)), v2, v3, v4] [] := by
    intro σ B J e x v2 v3 v4 hv hl hR hB h1 h2 hJ hF
    refine R.aload_n (j := 0) (i := 0) hc rfl rfl dX7_peopleRead_2 ?_
    refine R.gtV hc gf_X7_158_r dX7_peopleRead_3 hR.1 rfl (h2) ?_
    refine R.ifB_ne (tgt := 116) hc dX7_peopleRead_6 (by decide) (fun _ => ?_) (fun z => absurd z (by decide))
    refine R.iload_n (j := 1) (i := 1) hc rfl rfl dX7_peopleRead_116 ?_
    exact R.iret hc rfl dX7_peopleRead_117 ⟨rfl, hl _ _ ⟨_, rfl⟩ ⟨B, J, hR, hB, trivial, h1, h2, hJ, hF⟩⟩
  have F71 : ∀ (σ : Wd) (B : Nat → Nat → Int32) (J : Nat → Int32) (e x : Nat) (v2 v3 v4 : Option Value), nl v2 ∧ nl v3 → (∀ v : Option Value, ∀ σ' : Wd, (∃ x, v = some (.int x)) → PL9 σ0 σ' 4 A L I e true (fun _ => True) → LsR tp tl res σ0 σ' 4 A L I (PeH b0) v) → RW σ B L J → (∀ k, k ≠ 4 → B k = A k) → J 1 = nI e → J 2 = b2 true → (∀ k, k ≠ 1 → k ≠ 2 → J k = I k) → Eqo 42 17 σ0 σ → R cx 0 0 n σ 71 [some (.ref 42), some (.int (nI x)), v2, v3, v4] [] := by
    intro σ B J e x v2 v3 v4 hv hl hR hB h1 h2 hJ hF
    refine R.aload_n (j := 0) (i := 0) hc rfl rfl dX7_peopleRead_71 ?_
    refine R.gtV hc gf_X7_158_r dX7_peopleRead_72 hR.1 rfl (h2) ?_
    refine R.ifB_ne (tgt := 110) hc dX7_peopleRead_75 (by decide) (fun _ => ?_) (fun z => absurd z (by decide))
    refine R.iinc1 hc dX7_peopleRead_110 (iiN1 _) (by decide) rfl ?_
    refine R.goto (tgt := 2) hc dX7_peopleRead_113 (by decide) ?_
    exact F2 σ B J e (x + 1) v2 v3 v4 hv hl hR hB h1 h2 hJ hF
  have F59 : ∀ (σ : Wd) (B : Nat → Nat → Int32) (J : Nat → Int32) (e x : Nat) (v2 v3 v4 : Option Value), nl v2 ∧ nl v3 → e ≤ tl → (∀ v : Option Value, ∀ σ' : Wd, (∃ x, v = some (.int x)) → PL9 σ0 σ' 4 A L I e true (fun _ => True) → LsR tp tl res σ0 σ' 4 A L I (PeH b0) v) → RW σ B L J → (∀ k, k ≠ 4 → B k = A k) → J 1 = nI e → J 2 = b2 true → (∀ k, k ≠ 1 → k ≠ 2 → J k = I k) → Eqo 42 17 σ0 σ → R cx 0 0 n σ 59 [some (.ref 42), some (.int (nI x)), v2, v3, v4] [] := by
    intro σ B J e x v2 v3 v4 hv he hl hR hB h1 h2 hJ hF
    have h0 : J 0 = nI tl := by rw [hJ 0 (by omega) (by omega)]; exact h0
    have hT : ∀ j, j < tl → B 2 j = nI (tp j) := fun j hj => by rw [hB 2 (by omega)]; exact hT j hj
    refine R.aload_n (j := 0) (i := 0) hc rfl rfl dX7_peopleRead_59 ?_
    refine R.bipush hc bp_47 dX7_peopleRead_60 ?_
    refine R.iconst hc ic_1 dX7_peopleRead_62 ?_
    refine R.bipush hc bp_30 dX7_peopleRead_63 ?_
    refine R.iconst hc ic_1 dX7_peopleRead_65 ?_
    refine R.cVg hc m_X7_numberBehind lk_X7_179 dX7_peopleRead_66 (c_X7_numberBehind l d X n hR hT hU h0 h1 (by omega) h2 (by omega) (by omega) (by omega) (by omega)) (hR.1) rfl rfl rfl (by omega) ⟨Nat.le_refl _, Nat.le_refl _⟩ (Nat.le_of_ble_eq_true rfl) (fun v σ hX => ?_)
    obtain ⟨⟨y9, rfl⟩, K, hR, h1, h2, hK, hE⟩ := (show PO _ σ B L J v (.inl e) from hX)
    have hF := hF.tr hE
    have hJ : ∀ k, k ≠ 1 → k ≠ 2 → K k = I k := fun k h3 h4 => (hK k h3 h4).trans (hJ k h3 h4)
    refine R.ist4 hc dX7_peopleRead_69 (by decide) (by first | rfl | exact hv.1 | exact hv.2) ?_
    exact F71 σ B K e x _ _ _ ⟨by first | rfl | exact hv.1, by first | rfl | exact hv.2⟩ hl hR hB h1 h2 hJ hF
  have F48 : ∀ (σ : Wd) (B : Nat → Nat → Int32) (J : Nat → Int32) (e x : Nat) (v2 v3 v4 : Option Value), nl v2 ∧ nl v3 → e ≤ tl → (∀ v : Option Value, ∀ σ' : Wd, (∃ x, v = some (.int x)) → PL9 σ0 σ' 4 A L I e true (fun _ => True) → LsR tp tl res σ0 σ' 4 A L I (PeH b0) v) → RW σ B L J → (∀ k, k ≠ 4 → B k = A k) → J 1 = nI e → J 2 = b2 true → (∀ k, k ≠ 1 → k ≠ 2 → J k = I k) → Eqo 42 17 σ0 σ → R cx 0 0 n σ 48 [some (.ref 42), some (.int (nI x)), v2, v3, v4] [] := by
    intro σ B J e x v2 v3 v4 hv he hl hR hB h1 h2 hJ hF
    have h0 : J 0 = nI tl := by rw [hJ 0 (by omega) (by omega)]; exact h0
    have hT : ∀ j, j < tl → B 2 j = nI (tp j) := fun j hj => by rw [hB 2 (by omega)]; exact hT j hj
    refine R.aload_n (j := 0) (i := 0) hc rfl rfl dX7_peopleRead_48 ?_
    refine R.bipush hc bp_64 dX7_peopleRead_49 ?_
    refine R.iconst hc ic_0 dX7_peopleRead_51 ?_
    refine R.bipush hc bp_20 dX7_peopleRead_52 ?_
    refine R.iconst hc ic_0 dX7_peopleRead_54 ?_
    refine R.cVg hc m_X7_numberBehind lk_X7_179 dX7_peopleRead_55 (c_X7_numberBehind l d X n hR hT hU h0 h1 (by omega) h2 (by omega) (by omega) (by omega) (by omega)) (hR.1) rfl rfl rfl (by omega) ⟨Nat.le_refl _, Nat.le_refl _⟩ (Nat.le_of_ble_eq_true rfl) (fun v σ hX => ?_)
    obtain ⟨⟨y9, rfl⟩, K, hR, h1, h2, hK, hE⟩ := (show PO _ σ B L J v (.inl e) from hX)
    have hF := hF.tr hE
    have hJ : ∀ k, k ≠ 1 → k ≠ 2 → K k = I k := fun k h3 h4 => (hK k h3 h4).trans (hJ k h3 h4)
    refine R.istn3 hc dX7_peopleRead_58 (by decide) (by first | rfl | exact hv.1 | exact hv.2) ?_
    exact F59 σ B K e x _ _ _ ⟨by first | rfl | exact hv.1, by first | rfl | exact hv.2⟩ he hl hR hB h1 h2 hJ hF
  have F41 : ∀ (σ : Wd) (B : Nat → Nat → Int32) (J : Nat → Int32) (e x : Nat) (v2 v3 v4 : Option Value), nl v2 ∧ nl v3 → e ≤ tl → (∀ v : Option Value, ∀ σ' : Wd, (∃ x, v = some (.int x)) → PL9 σ0 σ' 4 A L I e true (fun _ => True) → LsR tp tl res σ0 σ' 4 A L I (PeH b0) v) → RW σ B L J → (∀ k, k ≠ 4 → B k = A k) → J 1 = nI e → J 2 = b2 true → (∀ k, k ≠ 1 → k ≠ 2 → J k = I k) → Eqo 42 17 σ0 σ → R cx 0 0 n σ 41 [some (.ref 42), some (.int (nI x)), v2, v3, v4] [] := by
    intro σ B J e x v2 v3 v4 hv he hl hR hB h1 h2 hJ hF
    have h0 : J 0 = nI tl := by rw [hJ 0 (by omega) (by omega)]; exact h0
    have hT : ∀ j, j < tl → B 2 j = nI (tp j) := fun j hj => by rw [hB 2 (by omega)]; exact hT j hj
    refine R.aload_n (j := 0) (i := 0) hc rfl rfl dX7_peopleRead_41 ?_
    refine R.bipush hc bp_7 dX7_peopleRead_42 ?_
    refine R.cVg hc m_X7_digit lk_X7_176 dX7_peopleRead_44 (c_X7_digit l (d + 1) X n hR hT hU h0 h1 (by omega) h2) (hR.1) rfl rfl rfl (by omega) ⟨Nat.le_refl _, Nat.le_refl _⟩ (Nat.le_of_ble_eq_true rfl) (fun v σ hX => ?_)
    obtain ⟨⟨y9, rfl⟩, K, hR, h1, h2, hK, hE⟩ := (show PO _ σ B L J v (.inl e) from hX)
    have hF := hF.tr hE
    have hJ : ∀ k, k ≠ 1 → k ≠ 2 → K k = I k := fun k h3 h4 => (hK k h3 h4).trans (hJ k h3 h4)
    refine R.istn2 hc dX7_peopleRead_47 (by decide) (by first | rfl | exact hv.1 | exact hv.2) ?_
    exact F48 σ B K e x _ _ _ ⟨by first | rfl | exact hv.1, by first | rfl | exact hv.2⟩ he hl hR hB h1 h2 hJ hF
  have G41 : ∀ (j k i : Nat) (b : SA) (σ : Wd) (B : Nat → Nat → Int32) (J : Nat → Int32) (v2 v3 v4 : Option Value), nl v2 ∧ nl v3 → k + (j + 1) = 6 → i ≤ tl → PeH b0 b k (B 4) →
      (match sightP tp tl i with
        | .inl f => .inl f
        | .inr q1 => match behP tp tl 64 0 20 0 q1.2 with
          | .inl f => .inl f
          | .inr q2 => match behP tp tl 47 1 30 1 q2.2 with
            | .inl f => .inl f
            | .inr q3 => peoP tp tl j (a4 b k q1.1 q2.1 q3.1) (k + 1) q3.2) = res →
      (∀ (i' : Nat) (b' : SA) (σ : Wd) (B : Nat → Nat → Int32) (J : Nat → Int32) (v2 v3 v4 : Option Value), nl v2 ∧ nl v3 → i' ≤ tl → PeH b0 b' (k + 1) (B 4) → peoP tp tl j b' (k + 1) i' = res → RW σ B L J → (∀ k, k ≠ 4 → B k = A k) → J 1 = nI i' → J 2 = b2 false → (∀ k, k ≠ 1 → k ≠ 2 → J k = I k) → Eqo 42 17 σ0 σ → R cx 0 0 n σ 2 [some (.ref 42), some (.int (nI (k + 1))), v2, v3, v4] []) →
      RW σ B L J → (∀ k, k ≠ 4 → B k = A k) → J 1 = nI i → J 2 = b2 false → (∀ k, k ≠ 1 → k ≠ 2 → J k = I k) → Eqo 42 17 σ0 σ → R cx 0 0 n σ 41 [some (.ref 42), some (.int (nI k)), v2, v3, v4] [] := by
    intro j k i b σ B J v2 v3 v4 hv hkj hi hG e nxt hR hB h1 h2 hJ hF
    have h0 : J 0 = nI tl := by rw [hJ 0 (by omega) (by omega)]; exact h0
    have hT : ∀ j, j < tl → B 2 j = nI (tp j) := fun j hj => by rw [hB 2 (by omega)]; exact hT j hj
    refine R.aload_n (j := 0) (i := 0) hc rfl rfl dX7_peopleRead_41 ?_
    refine R.bipush hc bp_7 dX7_peopleRead_42 ?_
    refine R.cVg hc m_X7_digit lk_X7_176 dX7_peopleRead_44 (c_X7_digit l (d + 1) X n hR hT hU h0 h1 (by omega) h2) (hR.1) rfl rfl rfl (by omega) ⟨Nat.le_refl _, Nat.le_refl _⟩ (Nat.le_of_ble_eq_true rfl) (fun v σ hX => ?_)
    cases hs9 : sightP tp tl i with
    | inl f =>
      rw [show stp false (sightP tp tl) i = .inl f from hs9] at hX
      rw [hs9] at e
      obtain ⟨⟨y9, rfl⟩, M, hR, h1, h2, hK, hE⟩ := hX
      have hF := hF.tr hE
      have hJ : ∀ k, k ≠ 1 → k ≠ 2 → M k = I k := fun k h3 h4 => (hK k h3 h4).trans (hJ k h3 h4)
      refine R.istn2 hc dX7_peopleRead_47 (by decide) (by first | rfl | exact hv.1 | exact hv.2) ?_
      exact F48 σ B M f k _ _ _ ⟨by first | rfl | exact hv.1, by first | rfl | exact hv.2⟩ (sightP_bad hi hs9) (fun v σ' h3 h4 => by rw [← e]; exact ⟨h3, h4⟩) hR hB h1 h2 hJ hF
    | inr q1 =>
      rw [show stp false (sightP tp tl) i = .inr q1 from hs9] at hX
      rw [hs9] at e
      have hq1 := sightP_ok hs9
      obtain ⟨rfl, M, hR, h1, h2, hK, hE⟩ := hX
      have hF := hF.tr hE
      have hJ : ∀ k, k ≠ 1 → k ≠ 2 → M k = I k := fun k h3 h4 => (hK k h3 h4).trans (hJ k h3 h4)
      have h0 : M 0 = nI tl := by rw [hJ 0 (by omega) (by omega)]; exact h09
      refine R.istn2 hc dX7_peopleRead_47 (by decide) (by first | rfl | exact hv.1 | exact hv.2) ?_
      refine R.aload_n (j := 0) (i := 0) hc rfl rfl dX7_peopleRead_48 ?_
      refine R.bipush hc bp_64 dX7_peopleRead_49 ?_
      refine R.iconst hc ic_0 dX7_peopleRead_51 ?_
      refine R.bipush hc bp_20 dX7_peopleRead_52 ?_
      refine R.iconst hc ic_0 dX7_peopleRead_54 ?_
      refine R.cVg hc m_X7_numberBehind lk_X7_179 dX7_peopleRead_55 (c_X7_numberBehind l d X n hR hT hU h0 h1 hq1.2 h2 (by omega) (by omega) (by omega) (by omega)) (hR.1) rfl rfl rfl (by omega) ⟨Nat.le_refl _, Nat.le_refl _⟩ (Nat.le_of_ble_eq_true rfl) (fun v σ hX => ?_)
      cases hn9 : behP tp tl 64 0 20 0 q1.2 with
      | inl f =>
        rw [show stp false (behP tp tl 64 0 20 0) q1.2 = .inl f from hn9] at hX
        simp only [hn9] at e
        obtain ⟨⟨y9, rfl⟩, N, hR, h1, h2, hK, hE⟩ := hX
        have hF := hF.tr hE
        have hJ : ∀ k, k ≠ 1 → k ≠ 2 → N k = I k := fun k h3 h4 => (hK k h3 h4).trans (hJ k h3 h4)
        refine R.istn3 hc dX7_peopleRead_58 (by decide) (by first | rfl | exact hv.1 | exact hv.2) ?_
        exact F59 σ B N f k _ _ _ ⟨by first | rfl | exact hv.1, by first | rfl | exact hv.2⟩ (behP_bad hq1.2 hn9) (fun v σ' h3 h4 => by rw [← e]; exact ⟨h3, h4⟩) hR hB h1 h2 hJ hF
      | inr q2 =>
        rw [show stp false (behP tp tl 64 0 20 0) q1.2 = .inr q2 from hn9] at hX
        simp only [hn9] at e
        have hq2 := behP_ok hq1.2 (by omega) hn9
        obtain ⟨rfl, N, hR, h1, h2, hK, hE⟩ := hX
        have hF := hF.tr hE
        have hJ : ∀ k, k ≠ 1 → k ≠ 2 → N k = I k := fun k h3 h4 => (hK k h3 h4).trans (hJ k h3 h4)
        have h0 : N 0 = nI tl := by rw [hJ 0 (by omega) (by omega)]; exact h09
        refine R.istn3 hc dX7_peopleRead_58 (by decide) (by first | rfl | exact hv.1 | exact hv.2) ?_
        refine R.aload_n (j := 0) (i := 0) hc rfl rfl dX7_peopleRead_59 ?_
        refine R.bipush hc bp_47 dX7_peopleRead_60 ?_
        refine R.iconst hc ic_1 dX7_peopleRead_62 ?_
        refine R.bipush hc bp_30 dX7_peopleRead_63 ?_
        refine R.iconst hc ic_1 dX7_peopleRead_65 ?_
        refine R.cVg hc m_X7_numberBehind lk_X7_179 dX7_peopleRead_66 (c_X7_numberBehind l d X n hR hT hU h0 h1 hq2.2.2 h2 (by omega) (by omega) (by omega) (by omega)) (hR.1) rfl rfl rfl (by omega) ⟨Nat.le_refl _, Nat.le_refl _⟩ (Nat.le_of_ble_eq_true rfl) (fun v σ hX => ?_)
        cases hm9 : behP tp tl 47 1 30 1 q2.2 with
        | inl f =>
          rw [show stp false (behP tp tl 47 1 30 1) q2.2 = .inl f from hm9] at hX
          simp only [hm9] at e
          obtain ⟨⟨y9, rfl⟩, K, hR, h1, h2, hK, hE⟩ := hX
          have hF := hF.tr hE
          have hJ : ∀ k, k ≠ 1 → k ≠ 2 → K k = I k := fun k h3 h4 => (hK k h3 h4).trans (hJ k h3 h4)
          refine R.ist4 hc dX7_peopleRead_69 (by decide) (by first | rfl | exact hv.1 | exact hv.2) ?_
          exact F71 σ B K f k _ _ _ ⟨by first | rfl | exact hv.1, by first | rfl | exact hv.2⟩ (fun v σ' h3 h4 => by rw [← e]; exact ⟨h3, h4⟩) hR hB h1 h2 hJ hF
        | inr q3 =>
          rw [show stp false (behP tp tl 47 1 30 1) q2.2 = .inr q3 from hm9] at hX
          simp only [hm9] at e
          have hq3 := behP_ok hq2.2.2 (by omega) hm9
          obtain ⟨rfl, K, hR, h1, h2, hK, hE⟩ := hX
          have hF := hF.tr hE
          have hJ : ∀ k, k ≠ 1 → k ≠ 2 → K k = I k := fun k h3 h4 => (hK k h3 h4).trans (hJ k h3 h4)
          refine R.ist4 hc dX7_peopleRead_69 (by decide) (by first | rfl | exact hv.1 | exact hv.2) ?_
          refine R.aload_n (j := 0) (i := 0) hc rfl rfl dX7_peopleRead_71 ?_
          refine R.gtV hc gf_X7_158_r dX7_peopleRead_72 hR.1 rfl (h2) ?_
          refine R.ifB_ne (tgt := 110) hc dX7_peopleRead_75 (by decide) (fun z => absurd z (by decide)) (fun _ => ?_)
          refine R.aload_n (j := 0) (i := 0) hc rfl rfl dX7_peopleRead_78 ?_
          refine R.get hc gf_X7_22_r dX7_peopleRead_79 (hR.1) rfl ?_
          refine R.iconst hc ic_3 dX7_peopleRead_82 ?_
          refine R.iload_n (j := 1) (i := 1) hc rfl rfl dX7_peopleRead_83 ?_
          first | refine R.imulN hc dX7_peopleRead_84 ?_ | refine R.imul hc dX7_peopleRead_84 ?_
          refine R.iload_n (j := 2) (i := 2) hc rfl rfl dX7_peopleRead_85 ?_
          refine R.iastG hc dX7_peopleRead_86 hR.g4 (by omega) (by decide) (fun σ hX hE => ?_)
          have hR := hR.w4 hX hE
          have hF := hF.tr (hE.wid (by omega))
          refine R.aload_n (j := 0) (i := 0) hc rfl rfl dX7_peopleRead_87 ?_
          refine R.get hc gf_X7_22_r dX7_peopleRead_88 (hR.1) rfl ?_
          refine R.iconst hc ic_3 dX7_peopleRead_91 ?_
          refine R.iload_n (j := 1) (i := 1) hc rfl rfl dX7_peopleRead_92 ?_
          first | refine R.imulN hc dX7_peopleRead_93 ?_ | refine R.imul hc dX7_peopleRead_93 ?_
          refine R.iconst hc ic_1 dX7_peopleRead_94 ?_
          first | refine R.iaddN hc dX7_peopleRead_95 ?_ | refine R.iadd hc dX7_peopleRead_95 ?_
          refine R.iload_n (j := 3) (i := 3) hc rfl rfl dX7_peopleRead_96 ?_
          refine R.iastG hc dX7_peopleRead_97 hR.g4 (by omega) (by decide) (fun σ hX hE => ?_)
          have hR := hR.w4 hX hE
          have hF := hF.tr (hE.wid (by omega))
          refine R.aload_n (j := 0) (i := 0) hc rfl rfl dX7_peopleRead_98 ?_
          refine R.get hc gf_X7_22_r dX7_peopleRead_99 (hR.1) rfl ?_
          refine R.iconst hc ic_3 dX7_peopleRead_102 ?_
          refine R.iload_n (j := 1) (i := 1) hc rfl rfl dX7_peopleRead_103 ?_
          first | refine R.imulN hc dX7_peopleRead_104 ?_ | refine R.imul hc dX7_peopleRead_104 ?_
          refine R.iconst hc ic_2 dX7_peopleRead_105 ?_
          first | refine R.iaddN hc dX7_peopleRead_106 ?_ | refine R.iadd hc dX7_peopleRead_106 ?_
          refine R.iload (i := 4) hc rfl dX7_peopleRead_107 ?_
          refine R.iastG hc dX7_peopleRead_109 hR.g4 (by omega) (by decide) (fun σ hX hE => ?_)
          have hR := hR.w4 hX hE
          have hF := hF.tr (hE.wid (by omega))
          refine R.iinc1 hc dX7_peopleRead_110 (iiN1 _) (by decide) rfl ?_
          refine R.goto (tgt := 2) hc dX7_peopleRead_113 (by decide) ?_
          refine nxt q3.2 _ σ _ K _ _ _ ⟨by first | rfl | exact hv.1, by first | rfl | exact hv.2⟩ hq3.2.2 ⟨fun p hp => ?_, fun p hp => ?_, fun j hj p => ?_⟩ e hR (fun k hk => by rw [A2_n hk, A2_n hk, A2_n hk]; exact hB k hk) h1 h2 hJ hF
          · rw [A2_s, A2_s, A2_s]
            by_cases y : p = k
            · subst y
              refine ⟨?_, ?_, ?_⟩
              · rw [pk_un (by omega), pk_un (by omega), pk_us]; simp [a4, a2]
              · rw [pk_un (by omega), pk_us]; simp [a4, a2]
              · rw [pk_us]; simp [a4, a2]
            · obtain ⟨g1, g2, g3⟩ := hG.1 p (by omega)
              refine ⟨?_, ?_, ?_⟩
              · rw [pk_un (by omega), pk_un (by omega), pk_un (by omega), g1]; simp [a4, a2, y]
              · rw [pk_un (by omega), pk_un (by omega), pk_un (by omega), g2]; simp [a4, a2, y]
              · rw [pk_un (by omega), pk_un (by omega), pk_un (by omega), g3]; simp [a4, a2, y]
          · by_cases y : p = k
            · subst y; rw [a4, a2_s]
            · rw [a4, a2_n (by omega), a2_n (by omega), a2_n (by omega), a2_n (by omega)]; exact hG.2.1 p (by omega)
          · rw [a4, a2_n (by omega), a2_n (by omega), a2_n (by omega), a2_n (by omega)]; exact hG.2.2 j hj p
  have lp : ∀ (j k i : Nat) (b : SA) (σ : Wd) (B : Nat → Nat → Int32) (J : Nat → Int32) (v2 v3 v4 : Option Value), nl v2 ∧ nl v3 → k + j = 6 → 0 < k → i ≤ tl → PeH b0 b k (B 4) → peoP tp tl j b k i = res → RW σ B L J → (∀ k, k ≠ 4 → B k = A k) → J 1 = nI i → J 2 = b2 false → (∀ k, k ≠ 1 → k ≠ 2 → J k = I k) → Eqo 42 17 σ0 σ → R cx 0 0 n σ 2 [some (.ref 42), some (.int (nI k)), v2, v3, v4] [] := by
    intro j
    induction j with
    | zero =>
      intro k i b σ B J v2 v3 v4 hv hkj hk0 hi hG e hR hB h1 h2 hJ hF
      rw [peoP] at e
      have hk7 : k = 6 := by omega
      have hcl := chr_lt (i := sk tp tl i) hU
      have hsk := sk_le (tp := tp) hi
      have htk := takeB_chr (tp := tp) (tl := tl) (i := i) (show 0 < 44 by omega)
      have h0 : J 0 = nI tl := by rw [hJ 0 (by omega) (by omega)]; exact h0
      have hT : ∀ j, j < tl → B 2 j = nI (tp j) := fun j hj => by rw [hB 2 (by omega)]; exact hT j hj
      refine R.aload_n (j := 0) (i := 0) hc rfl rfl dX7_peopleRead_2 ?_
      refine R.gtV hc gf_X7_158_r dX7_peopleRead_3 hR.1 rfl (h2) ?_
      refine R.ifB_ne (tgt := 116) hc dX7_peopleRead_6 (by decide) (fun z => absurd z (by decide)) (fun _ => ?_)
      refine R.iload_n (j := 1) (i := 1) hc rfl rfl dX7_peopleRead_9 ?_
      refine R.ifN_eq (tgt := 22) hc dX7_peopleRead_10 (by decide) (by omega) (fun z => absurd z (by omega)) (fun _ => ?_)
      refine R.aload_n (j := 0) (i := 0) hc rfl rfl dX7_peopleRead_13 ?_
      refine R.cVi hc m_X7_here lk_X7_162 dX7_peopleRead_14 (c_X7_here l (d + 2) X n hR hT hU h0 h1 (by omega)) (hR.1) rfl rfl rfl (by omega) ⟨Nat.le_refl _, Nat.le_refl _⟩ (Nat.le_of_ble_eq_true rfl) (fun σ hX => ?_)
      obtain ⟨K, hR, k1, hK, hE⟩ := hX
      have hF := hF.tr hE
      have h2 : K 2 = b2 false := by rw [hK 2 (by omega)]; exact h2
      have h1 : K 1 = nI (sk tp tl i) := k1
      have hJ : ∀ k, k ≠ 1 → k ≠ 2 → K k = I k := fun k h3 h4 => (hK k h3).trans (hJ k h3 h4)
      have h0 : K 0 = nI tl := by rw [hJ 0 (by omega) (by omega)]; exact h09
      refine R.bipush hc bp_44 dX7_peopleRead_17 ?_
      refine R.icmpN_ne (tgt := 116) hc dX7_peopleRead_19 (by decide) (by omega) (by omega) (fun z => ?_) (fun z => ?_)
      · rw [decide_eq_false z] at htk
        refine R.iload_n (j := 1) (i := 1) hc rfl rfl dX7_peopleRead_116 ?_
        refine R.iret hc rfl dX7_peopleRead_117 ⟨rfl, ?_⟩
        rw [← e]
        show if takeB tp tl 44 i = true then _ else _
        rw [htk, if_neg (by decide)]
        exact ⟨rfl, B, K, hR, hB, hG, h1, h2, hJ, hF⟩
      · rw [decide_eq_true z] at htk
        refine R.iload_n (j := 1) (i := 1) hc rfl rfl dX7_peopleRead_22 ?_
        refine R.ifN_le (tgt := 41) hc dX7_peopleRead_23 (by decide) (by omega) (fun y => absurd y (by omega)) (fun _ => ?_)
        refine R.aload_n (j := 0) (i := 0) hc rfl rfl dX7_peopleRead_26 ?_
        refine R.iload_n (j := 1) (i := 1) hc rfl rfl dX7_peopleRead_27 ?_
        refine R.bipush hc bp_6 dX7_peopleRead_28 ?_
        refine R.icmpN_ge (tgt := 37) hc dX7_peopleRead_30 (by decide) (by omega) (by omega) (fun _ => ?_) (fun y => absurd (by omega) y)
        refine R.iconst hc ic_0 dX7_peopleRead_37 ?_
        refine R.cVu hc m_X7_must lk_X7_165 dX7_peopleRead_38 (c_X7_must l (d + 2) X n hR (b := false) h1 h2) (hR.1) rfl rfl rfl (by omega) ⟨Nat.le_refl _, Nat.le_refl _⟩ (Nat.le_of_ble_eq_true rfl) (fun σ hX => ?_)
        obtain ⟨M, hR, h1, h2, hM, hE⟩ := hX
        have hF := hF.tr hE
        have hJ : ∀ k, k ≠ 1 → k ≠ 2 → M k = I k := fun k h3 h4 => (hM k h3 h4).trans (hJ k h3 h4)
        refine F41 σ B M (sk tp tl i) k _ _ _ ⟨by first | rfl | exact hv.1, by first | rfl | exact hv.2⟩ (by omega) (fun v σ' h3 h4 => ?_) hR hB h1 h2 hJ hF
        rw [← e]
        show if takeB tp tl 44 i = true then _ else _
        rw [htk, if_pos rfl]
        exact ⟨h3, h4⟩
    | succ j ih =>
      intro k i b σ B J v2 v3 v4 hv hkj hk0 hi hG e hR hB h1 h2 hJ hF
      rw [peoP] at e
      have hcl := chr_lt (i := sk tp tl i) hU
      have hsk := sk_le (tp := tp) hi
      have htk := takeB_chr (tp := tp) (tl := tl) (i := i) (show 0 < 44 by omega)
      have h0 : J 0 = nI tl := by rw [hJ 0 (by omega) (by omega)]; exact h0
      have hT : ∀ j, j < tl → B 2 j = nI (tp j) := fun j hj => by rw [hB 2 (by omega)]; exact hT j hj
      refine R.aload_n (j := 0) (i := 0) hc rfl rfl dX7_peopleRead_2 ?_
      refine R.gtV hc gf_X7_158_r dX7_peopleRead_3 hR.1 rfl (h2) ?_
      refine R.ifB_ne (tgt := 116) hc dX7_peopleRead_6 (by decide) (fun z => absurd z (by decide)) (fun _ => ?_)
      refine R.iload_n (j := 1) (i := 1) hc rfl rfl dX7_peopleRead_9 ?_
      refine R.ifN_eq (tgt := 22) hc dX7_peopleRead_10 (by decide) (by omega) (fun z => absurd z (by omega)) (fun _ => ?_)
      refine R.aload_n (j := 0) (i := 0) hc rfl rfl dX7_peopleRead_13 ?_
      refine R.cVi hc m_X7_here lk_X7_162 dX7_peopleRead_14 (c_X7_here l (d + 2) X n hR hT hU h0 h1 (by omega)) (hR.1) rfl rfl rfl (by omega) ⟨Nat.le_refl _, Nat.le_refl _⟩ (Nat.le_of_ble_eq_true rfl) (fun σ hX => ?_)
      obtain ⟨K, hR, k1, hK, hE⟩ := hX
      have hF := hF.tr hE
      have h2 : K 2 = b2 false := by rw [hK 2 (by omega)]; exact h2
      have h1 : K 1 = nI (sk tp tl i) := k1
      have hJ : ∀ k, k ≠ 1 → k ≠ 2 → K k = I k := fun k h3 h4 => (hK k h3).trans (hJ k h3 h4)
      have h0 : K 0 = nI tl := by rw [hJ 0 (by omega) (by omega)]; exact h09
      refine R.bipush hc bp_44 dX7_peopleRead_17 ?_
      refine R.icmpN_ne (tgt := 116) hc dX7_peopleRead_19 (by decide) (by omega) (by omega) (fun z => ?_) (fun z => ?_)
      · rw [decide_eq_false z] at htk
        rw [if_pos ⟨hk0, htk⟩] at e
        refine R.iload_n (j := 1) (i := 1) hc rfl rfl dX7_peopleRead_116 ?_
        refine R.iret hc rfl dX7_peopleRead_117 ⟨rfl, ?_⟩
        rw [← e]
        show if takeB tp tl 44 (sk tp tl i) = true then _ else _
        rw [takeB_sk hi, htk, if_neg (by decide), sk_sk hi]
        exact ⟨rfl, B, K, hR, hB, hG, h1, h2, hJ, hF⟩
      · rw [decide_eq_true z] at htk
        rw [if_neg (by rw [htk]; simp), if_neg (by omega)] at e
        have hst : sk tp tl i < tl := by
          unfold chr at z
          split at z
          · assumption
          · omega
        refine R.iload_n (j := 1) (i := 1) hc rfl rfl dX7_peopleRead_22 ?_
        refine R.ifN_le (tgt := 41) hc dX7_peopleRead_23 (by decide) (by omega) (fun y => absurd y (by omega)) (fun _ => ?_)
        refine R.aload_n (j := 0) (i := 0) hc rfl rfl dX7_peopleRead_26 ?_
        refine R.iload_n (j := 1) (i := 1) hc rfl rfl dX7_peopleRead_27 ?_
        refine R.bipush hc bp_6 dX7_peopleRead_28 ?_
        refine R.icmpN_ge (tgt := 37) hc dX7_peopleRead_30 (by decide) (by omega) (by omega) (fun y => absurd y (by omega)) (fun _ => ?_)
        refine R.iconst hc ic_1 dX7_peopleRead_33 ?_
        refine R.goto (tgt := 38) hc dX7_peopleRead_34 (by decide) ?_
        refine R.cVu hc m_X7_must lk_X7_165 dX7_peopleRead_38 (c_X7_must l (d + 2) X n hR (b := true) h1 h2) (hR.1) rfl rfl rfl (by omega) ⟨Nat.le_refl _, Nat.le_refl _⟩ (Nat.le_of_ble_eq_true rfl) (fun σ hX => ?_)
        obtain ⟨M, hR, h1, h2, hM, hE⟩ := hX
        have hF := hF.tr hE
        have hJ : ∀ k, k ≠ 1 → k ≠ 2 → M k = I k := fun k h3 h4 => (hM k h3 h4).trans (hJ k h3 h4)
        exact G41 j k (sk tp tl i + 1) b σ B M _ _ _ ⟨by first | rfl | exact hv.1, by first | rfl | exact hv.2⟩ hkj (by omega) hG e (fun i' b' σ B J v2 v3 v4 hv a1 a2 a3 a4 a5 a6 a7 a8 a9 => ih (k + 1) i' b' σ B J v2 v3 v4 hv (by omega) (by omega) a1 a2 a3 a4 a5 a6 a7 a8 a9) hR hB h1 h2 hJ hF
  rw [peoP, if_neg (by omega), if_pos rfl] at hres
  refine R.iconst hc ic_0 dX7_peopleRead_0 ?_
  refine R.istn1 hc dX7_peopleRead_1 (by decide) (by first | rfl | exact hv.1 | exact hv.2) ?_
  refine R.aload_n (j := 0) (i := 0) hc rfl rfl dX7_peopleRead_2 ?_
  refine R.gtV hc gf_X7_158_r dX7_peopleRead_3 hR.1 rfl (h2) ?_
  refine R.ifB_ne (tgt := 116) hc dX7_peopleRead_6 (by decide) (fun z => absurd z (by decide)) (fun _ => ?_)
  refine R.iload_n (j := 1) (i := 1) hc rfl rfl dX7_peopleRead_9 ?_
  refine R.ifN_eq (tgt := 22) hc dX7_peopleRead_10 (by decide) (by omega) (fun _ => ?_) (fun z => absurd rfl z)
  refine R.iload_n (j := 1) (i := 1) hc rfl rfl dX7_peopleRead_22 ?_
  refine R.ifN_le (tgt := 41) hc dX7_peopleRead_23 (by decide) (by omega) (fun _ => ?_) (fun y => absurd y (by omega))
  exact G41 5 0 pl b0 σ A I _ _ _ ⟨by first | rfl | exact hv.1, by first | rfl | exact hv.2⟩ rfl hpl ⟨fun p hp => absurd hp (by omega), fun p hp => absurd hp (by omega), fun _ _ _ => rfl⟩ hres.symm (fun i' b' σ B J v2 v3 v4 hv a1 a2 a3 a4 a5 a6 a7 a8 a9 => lp 5 1 i' b' σ B J v2 v3 v4 hv (by omega) (by omega) a1 a2 a3 a4 a5 a6 a7 a8 a9) hR (fun _ _ => rfl) h1 h2 (fun _ _ _ => rfl) hF
