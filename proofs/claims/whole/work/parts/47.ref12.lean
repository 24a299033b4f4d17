/-- a local that is no long -/
def nl (v : Option Value) : Prop := rl_ok1 [v] 1 = true
theorem takeB_chr {tp : Nat → Nat} {tl c i : Nat} (hc : 0 < c) : takeB tp tl c i = decide (chr tp tl (sk tp tl i) = c) := by
  unfold takeB chr
  refine decide_eq_decide.mpr ?_
  by_cases y : sk tp tl i < tl
  · rw [if_pos y]; exact ⟨fun h => h.2, fun h => ⟨y, h⟩⟩
  · rw [if_neg y]; exact ⟨fun h => absurd h.1 y, fun h => absurd h (by omega)⟩
theorem kindP_chr {tp : Nat → Nat} {tl i : Nat} : kindP tp tl i = (match kdN (chr tp tl (sk tp tl i)) with
  | 0 => .inl (sk tp tl i)
  | k + 1 => .inr (k, sk tp tl i + 1)) := by
  unfold kindP chr
  by_cases y : sk tp tl i < tl
  · rw [if_pos y, if_pos y]
    cases kdN (tp (sk tp tl i)) <;> rfl
  · rw [if_neg y, if_neg y]; rfl
/-- what the reading of a list leaves: a fault at e, or k of them, read as far as e -/
def PL9 (σ σ' : Wd) (w : Nat) (A : Nat → Nat → Int32) (L : Nat → Nat → Int64) (I : Nat → Int32) (e : Nat) (f : Bool) (G : (Nat → Int32) → Prop) : Prop := ∃ A' J, RW σ' A' L J ∧ (∀ k, k ≠ w → A' k = A k) ∧ G (A' w) ∧ J 1 = nI e ∧ J 2 = b2 f ∧ (∀ k, k ≠ 1 → k ≠ 2 → J k = I k) ∧ Eqo 42 17 σ σ'
def PuG (b : SA) (k : Nat) (g : Nat → Int32) : Prop := ∀ p, p < k → g (3 * p) = nI (b 0 p) ∧ g (3 * p + 1) = nI (b 1 p) ∧ g (3 * p + 2) = nI (b 2 p)
def PeG (b : SA) (k : Nat) (g : Nat → Int32) : Prop := ∀ p, p < k → g (3 * p) = nI (b 3 p) ∧ g (3 * p + 1) = nI (b 4 p) ∧ g (3 * p + 2) = nI (b 5 p)
def LsR (tp : Nat → Nat) (tl : Nat) (r : Nat ⊕ (SA × Nat × Nat)) (σ σ' : Wd) (w : Nat) (A : Nat → Nat → Int32) (L : Nat → Nat → Int64) (I : Nat → Int32) (G : SA → Nat → (Nat → Int32) → Prop) (v : Option Value) : Prop := match r with
  | .inl e => (∃ x, v = some (.int x)) ∧ PL9 σ σ' w A L I e true (fun _ => True)
  | .inr q => if takeB tp tl 44 q.2.2 = true then (∃ x, v = some (.int x)) ∧ PL9 σ σ' w A L I (sk tp tl q.2.2) true (fun _ => True) else v = some (.int (nI q.2.1)) ∧ PL9 σ σ' w A L I (sk tp tl q.2.2) false (G q.1 q.2.1)
theorem takeB_sk {tp : Nat → Nat} {tl c i : Nat} (h : i ≤ tl) : takeB tp tl c (sk tp tl i) = takeB tp tl c i := by unfold takeB; rw [sk_sk h]
set_option maxHeartbeats 4000000 in
set_option maxRecDepth 100000 in
theorem c_X7_puddlesRead (l : Launch) (d : Nat) (X : Nat × (Nat → Int32)) (n : Nat) {σ : Wd} {A : Nat → Nat → Int32} {L : Nat → Nat → Int64} {I : Nat → Int32} (hR : RW σ A L I) {tp : Nat → Nat} {tl : Nat} (hT : ∀ j, j < tl → A 2 j = nI (tp j)) (hU : WT tp tl) (h0 : I 0 = nI tl) (h1 : I 1 = nI 0) (h2 : I 2 = b2 false) : CN l yX7_puddlesRead cX7_puddlesRead 6 (some .int) ((d + 2)) X n [.ref 42] σ (fun v σ' => LsR tp tl (pudP tp tl 7 (fun _ _ => 0) 0 0) σ σ' 3 A L I PuG v) := by
  refine CN.of (by decide) [some (.ref 42), none, none, none, none, none] (fun _ => Nat.le_of_ble_eq_true rfl) (fun _ => rfl) (fun cx hc => ?_)
  have hU1 := hU.1
  have hT9 := hT
  have h09 := h0
  obtain ⟨σ0, hσ0⟩ : ∃ z, z = σ := ⟨_, rfl⟩
  rw [← hσ0] at hc
  have hF : Eqo 42 17 σ0 σ := by rw [hσ0]; exact Eqo.rf
  obtain ⟨res, hres⟩ : ∃ z, z = pudP tp tl 7 (fun _ _ => 0) 0 0 := ⟨_, rfl⟩
  rw [← hres] at hc
  have F2 : ∀ (σ : Wd) (B : Nat → Nat → Int32) (J : Nat → Int32) (e x : Nat) (v2 v3 v4 v5 : Option Value), nl v2 ∧ nl v3 ∧ nl v4 → (∀ v : Option Value, ∀ σ' : Wd, (∃ x, v = some (.int x)) → PL9 σ0 σ' 3 A L I e true (fun _ => True) → LsR tp tl res σ0 σ' 3 A L I PuG v) → RW σ B L J → (∀ k, k ≠ 3 → B k = A k) → J 1 = nI e → J 2 = b2 true → (∀ k, k ≠ 1 → k ≠ 2 → J k = I k) → Eqo 42 17 σ0 σ → R cx 0 0 n σ 2 [some (.ref 42), some (.int (nI x)), v2, v3, v4, v5] [] := by
    intro σ B J e x v2 v3 v4 v5 hv hl hR hB h1 h2 hJ hF
    refine R.aload_n (j := 0) (i := 0) hc rfl rfl dX7_puddlesRead_2 ?_
    refine R.gtV hc gf_X7_158_r dX7_puddlesRead_3 hR.1 rfl (h2) ?_
    refine R.ifB_ne (tgt := 185) hc dX7_puddlesRead_6 (by decide) (fun _ => ?_) (fun z => absurd z (by decide))
    refine R.iload_n (j := 1) (i := 1) hc rfl rfl dX7_puddlesRead_185 ?_
    exact R.iret hc rfl dX7_puddlesRead_186 ⟨rfl, hl _ _ ⟨_, rfl⟩ ⟨B, J, hR, hB, trivial, h1, h2, hJ, hF⟩⟩
  have F139 : ∀ (σ : Wd) (B : Nat → Nat → Int32) (J : Nat → Int32) (e x : Nat) (v2 v3 v4 v5 : Option Value), nl v2 ∧ nl v3 ∧ nl v4 → (∀ v : Option Value, ∀ σ' : Wd, (∃ x, v = some (.int x)) → PL9 σ0 σ' 3 A L I e true (fun _ => True) → LsR tp tl res σ0 σ' 3 A L I PuG v) → RW σ B L J → (∀ k, k ≠ 3 → B k = A k) → J 1 = nI e → J 2 = b2 true → (∀ k, k ≠ 1 → k ≠ 2 → J k = I k) → Eqo 42 17 σ0 σ → R cx 0 0 n σ 139 [some (.ref 42), some (.int (nI x)), v2, v3, v4, v5] [] := by
    intro σ B J e x v2 v3 v4 v5 hv hl hR hB h1 h2 hJ hF
    refine R.aload_n (j := 0) (i := 0) hc rfl rfl dX7_puddlesRead_139 ?_
    refine R.gtV hc gf_X7_158_r dX7_puddlesRead_140 hR.1 rfl (h2) ?_
    refine R.ifB_ne (tgt := 179) hc dX7_puddlesRead_143 (by decide) (fun _ => ?_) (fun z => absurd z (by decide))
    refine R.iinc1 hc dX7_puddlesRead_179 (iiN1 _) (by decide) rfl ?_
    refine R.goto (tgt := 2) hc dX7_puddlesRead_182 (by decide) ?_
    exact F2 σ B J e (x + 1) v2 v3 v4 v5 hv hl hR hB h1 h2 hJ hF
  have F130 : ∀ (σ : Wd) (B : Nat → Nat → Int32) (J : Nat → Int32) (e x : Nat) (v2 v3 v4 v5 : Option Value), nl v2 ∧ nl v3 ∧ nl v4 → e ≤ tl → (∀ v : Option Value, ∀ σ' : Wd, (∃ x, v = some (.int x)) → PL9 σ0 σ' 3 A L I e true (fun _ => True) → LsR tp tl res σ0 σ' 3 A L I PuG v) → RW σ B L J → (∀ k, k ≠ 3 → B k = A k) → J 1 = nI e → J 2 = b2 true → (∀ k, k ≠ 1 → k ≠ 2 → J k = I k) → Eqo 42 17 σ0 σ → R cx 0 0 n σ 130 [some (.ref 42), some (.int (nI x)), v2, v3, v4, v5] [] := by
    intro σ B J e x v2 v3 v4 v5 hv he hl hR hB h1 h2 hJ hF
    have h0 : J 0 = nI tl := by rw [hJ 0 (by omega) (by omega)]; exact h0
    have hT : ∀ j, j < tl → B 2 j = nI (tp j) := fun j hj => by rw [hB 2 (by omega)]; exact hT j hj
    refine R.aload_n (j := 0) (i := 0) hc rfl rfl dX7_puddlesRead_130 ?_
    refine R.iconst hc ic_0 dX7_puddlesRead_131 ?_
    refine R.bipush hc bp_60 dX7_puddlesRead_132 ?_
    refine R.cVg hc m_X7_number lk_X7_173 dX7_puddlesRead_134 (c_X7_number l d X n hR hT hU h0 h1 (by omega) h2 (by omega) (by omega)) (hR.1) rfl rfl rfl (by omega) ⟨Nat.le_refl _, Nat.le_refl _⟩ (Nat.le_of_ble_eq_true rfl) (fun v σ hX => ?_)
    obtain ⟨⟨y9, rfl⟩, K, hR, h1, h2, hK, hE⟩ := (show PO _ σ B L J v (.inl e) from hX)
    have hF := hF.tr hE
    have hJ : ∀ k, k ≠ 1 → k ≠ 2 → K k = I k := fun k h3 h4 => (hK k h3 h4).trans (hJ k h3 h4)
    refine R.ist5 hc dX7_puddlesRead_137 (by decide) (by first | rfl | exact hv.1 | exact hv.2.1 | exact hv.2.2) ?_
    exact F139 σ B K e x _ _ _ _ ⟨by first | rfl | exact hv.1, by first | rfl | exact hv.2.1, by first | rfl | exact hv.2.2⟩ hl hR hB h1 h2 hJ hF
  have F122 : ∀ (σ : Wd) (B : Nat → Nat → Int32) (J : Nat → Int32) (e x : Nat) (v2 v3 v4 v5 : Option Value), nl v2 ∧ nl v3 ∧ nl v4 → e ≤ tl → (∀ v : Option Value, ∀ σ' : Wd, (∃ x, v = some (.int x)) → PL9 σ0 σ' 3 A L I e true (fun _ => True) → LsR tp tl res σ0 σ' 3 A L I PuG v) → RW σ B L J → (∀ k, k ≠ 3 → B k = A k) → J 1 = nI e → J 2 = b2 true → (∀ k, k ≠ 1 → k ≠ 2 → J k = I k) → Eqo 42 17 σ0 σ → R cx 0 0 n σ 122 [some (.ref 42), some (.int (nI x)), v2, v3, v4, v5] [] := by
    intro σ B J e x v2 v3 v4 v5 hv he hl hR hB h1 h2 hJ hF
    have h0 : J 0 = nI tl := by rw [hJ 0 (by omega) (by omega)]; exact h0
    have hT : ∀ j, j < tl → B 2 j = nI (tp j) := fun j hj => by rw [hB 2 (by omega)]; exact hT j hj
    refine R.aload_n (j := 0) (i := 0) hc rfl rfl dX7_puddlesRead_122 ?_
    refine R.bipush hc bp_7 dX7_puddlesRead_123 ?_
    refine R.cVg hc m_X7_digit lk_X7_176 dX7_puddlesRead_125 (c_X7_digit l d X n hR hT hU h0 h1 (by omega) h2) (hR.1) rfl rfl rfl (by omega) ⟨Nat.le_refl _, Nat.le_refl _⟩ (Nat.le_of_ble_eq_true rfl) (fun v σ hX => ?_)
    obtain ⟨⟨y9, rfl⟩, K, hR, h1, h2, hK, hE⟩ := (show PO _ σ B L J v (.inl e) from hX)
    have hF := hF.tr hE
    have hJ : ∀ k, k ≠ 1 → k ≠ 2 → K k = I k := fun k h3 h4 => (hK k h3 h4).trans (hJ k h3 h4)
    refine R.ist4 hc dX7_puddlesRead_128 (by decide) (by first | rfl | exact hv.1 | exact hv.2.1 | exact hv.2.2) ?_
    exact F130 σ B K e x _ _ _ _ ⟨by first | rfl | exact hv.1, by first | rfl | exact hv.2.1, by first | rfl | exact hv.2.2⟩ he hl hR hB h1 h2 hJ hF
  have F41 : ∀ (σ : Wd) (B : Nat → Nat → Int32) (J : Nat → Int32) (e x : Nat) (v2 v3 v4 v5 : Option Value), nl v2 ∧ nl v3 ∧ nl v4 → e ≤ tl → (∀ v : Option Value, ∀ σ' : Wd, (∃ x, v = some (.int x)) → PL9 σ0 σ' 3 A L I e true (fun _ => True) → LsR tp tl res σ0 σ' 3 A L I PuG v) → RW σ B L J → (∀ k, k ≠ 3 → B k = A k) → J 1 = nI e → J 2 = b2 true → (∀ k, k ≠ 1 → k ≠ 2 → J k = I k) → Eqo 42 17 σ0 σ → R cx 0 0 n σ 41 [some (.ref 42), some (.int (nI x)), v2, v3, v4, v5] [] := by
    intro σ B J e x v2 v3 v4 v5 hv he hl hR hB h1 h2 hJ hF
    refine R.aload_n (j := 0) (i := 0) hc rfl rfl dX7_puddlesRead_41 ?_
    refine R.gtV hc gf_X7_158_r dX7_puddlesRead_42 hR.1 rfl (h2) ?_
    refine R.ifB_eq (tgt := 52) hc dX7_puddlesRead_45 (by decide) (fun z => absurd z (by decide)) (fun _ => ?_)
    refine R.iconst hc ic_0 dX7_puddlesRead_48 ?_
    refine R.goto (tgt := 56) hc dX7_puddlesRead_49 (by decide) ?_
    refine R.istn2 hc dX7_puddlesRead_56 (by decide) (by first | rfl | exact hv.1 | exact hv.2.1 | exact hv.2.2) ?_
    refine R.iload_n (j := 2) (i := 2) hc rfl rfl dX7_puddlesRead_57 ?_
    refine R.bipush hc bp_112 dX7_puddlesRead_58 ?_
    refine R.icmpN_ne (tgt := 67) hc dX7_puddlesRead_60 (by decide) (by omega) (by omega) (fun _ => ?_) (fun z => absurd z (by omega))
    refine R.iload_n (j := 2) (i := 2) hc rfl rfl dX7_puddlesRead_67 ?_
    refine R.bipush hc bp_115 dX7_puddlesRead_68 ?_
    refine R.icmpN_ne (tgt := 77) hc dX7_puddlesRead_70 (by decide) (by omega) (by omega) (fun _ => ?_) (fun z => absurd z (by omega))
    refine R.iload_n (j := 2) (i := 2) hc rfl rfl dX7_puddlesRead_77 ?_
    refine R.bipush hc bp_107 dX7_puddlesRead_78 ?_
    refine R.icmpN_ne (tgt := 87) hc dX7_puddlesRead_80 (by decide) (by omega) (by omega) (fun _ => ?_) (fun z => absurd z (by omega))
    refine R.iload_n (j := 2) (i := 2) hc rfl rfl dX7_puddlesRead_87 ?_
    refine R.bipush hc bp_119 dX7_puddlesRead_88 ?_
    refine R.icmpN_ne (tgt := 97) hc dX7_puddlesRead_90 (by decide) (by omega) (by omega) (fun _ => ?_) (fun z => absurd z (by omega))
    refine R.iload_n (j := 2) (i := 2) hc rfl rfl dX7_puddlesRead_97 ?_
    refine R.bipush hc bp_103 dX7_puddlesRead_98 ?_
    refine R.icmpN_ne (tgt := 107) hc dX7_puddlesRead_100 (by decide) (by omega) (by omega) (fun _ => ?_) (fun z => absurd z (by omega))
    refine R.iconst hc ic_m1 dX7_puddlesRead_107 ?_
    refine R.istn3 hc dX7_puddlesRead_108 (by decide) (by first | rfl | exact hv.1 | exact hv.2.1 | exact hv.2.2) ?_
    refine R.aload_n (j := 0) (i := 0) hc rfl rfl dX7_puddlesRead_109 ?_
    refine R.iload_n (j := 3) (i := 3) hc rfl rfl dX7_puddlesRead_110 ?_
    refine R.if_lt (tgt := 118) hc dX7_puddlesRead_111 (by decide) (fun _ => ?_) (fun z => absurd (by decide) z)
    refine R.iconst hc ic_0 dX7_puddlesRead_118 ?_
    refine R.cVu hc m_X7_must lk_X7_165 dX7_puddlesRead_119 (c_X7_must l (d + 1) X n hR (b := false) h1 h2) (hR.1) rfl rfl rfl (by omega) ⟨Nat.le_refl _, Nat.le_refl _⟩ (Nat.le_of_ble_eq_true rfl) (fun σ hX => ?_)
    obtain ⟨K, hR, h1, h2, hK, hE⟩ := hX
    have hF := hF.tr hE
    have hJ : ∀ k, k ≠ 1 → k ≠ 2 → K k = I k := fun k h3 h4 => (hK k h3 h4).trans (hJ k h3 h4)
    exact F122 σ B K e x _ _ _ _ ⟨by first | rfl | exact hv.1, by first | rfl | exact hv.2.1, by first | rfl | exact hv.2.2⟩ he hl hR hB h1 h2 hJ hF
  have G41 : ∀ (j k i : Nat) (b : SA) (σ : Wd) (B : Nat → Nat → Int32) (J : Nat → Int32) (v2 v3 v4 v5 : Option Value), nl v2 ∧ nl v3 ∧ nl v4 → k + (j + 1) = 7 → i ≤ tl → PuG b k (B 3) →
      (match kindP tp tl i with
        | .inl f => .inl f
        | .inr q1 => match sightP tp tl q1.2 with
          | .inl f => .inl f
          | .inr q2 => match numP tp tl 0 60 q2.2 with
            | .inl f => .inl f
            | .inr q3 => pudP tp tl j (a3 b k q1.1 q2.1 q3.1) (k + 1) q3.2) = res →
      (∀ (i' : Nat) (b' : SA) (σ : Wd) (B : Nat → Nat → Int32) (J : Nat → Int32) (v2 v3 v4 v5 : Option Value), nl v2 ∧ nl v3 ∧ nl v4 → i' ≤ tl → PuG b' (k + 1) (B 3) → pudP tp tl j b' (k + 1) i' = res → RW σ B L J → (∀ k, k ≠ 3 → B k = A k) → J 1 = nI i' → J 2 = b2 false → (∀ k, k ≠ 1 → k ≠ 2 → J k = I k) → Eqo 42 17 σ0 σ → R cx 0 0 n σ 2 [some (.ref 42), some (.int (nI (k + 1))), v2, v3, v4, v5] []) →
      RW σ B L J → (∀ k, k ≠ 3 → B k = A k) → J 1 = nI i → J 2 = b2 false → (∀ k, k ≠ 1 → k ≠ 2 → J k = I k) → Eqo 42 17 σ0 σ → R cx 0 0 n σ 41 [some (.ref 42), some (.int (nI k)), v2, v3, v4, v5] [] := by
    intro j k i b σ B J v2 v3 v4 v5 hv hkj hi hG e nxt hR hB h1 h2 hJ hF
    have hcl := chr_lt (i := sk tp tl i) hU
    have hsk := sk_le (tp := tp) hi
    have h0 : J 0 = nI tl := by rw [hJ 0 (by omega) (by omega)]; exact h0
    have hT : ∀ j, j < tl → B 2 j = nI (tp j) := fun j hj => by rw [hB 2 (by omega)]; exact hT j hj
    refine R.aload_n (j := 0) (i := 0) hc rfl rfl dX7_puddlesRead_41 ?_
    refine R.gtV hc gf_X7_158_r dX7_puddlesRead_42 hR.1 rfl (h2) ?_
    refine R.ifB_eq (tgt := 52) hc dX7_puddlesRead_45 (by decide) (fun _ => ?_) (fun z => absurd z (by decide))
    refine R.aload_n (j := 0) (i := 0) hc rfl rfl dX7_puddlesRead_52 ?_
    refine R.cVi hc m_X7_here lk_X7_162 dX7_puddlesRead_53 (c_X7_here l (d + 1) X n hR hT hU h0 h1 (by omega)) (hR.1) rfl rfl rfl (by omega) ⟨Nat.le_refl _, Nat.le_refl _⟩ (Nat.le_of_ble_eq_true rfl) (fun σ hX => ?_)
    obtain ⟨K, hR, k1, hK, hE⟩ := hX
    have hF := hF.tr hE
    have h2 : K 2 = b2 false := by rw [hK 2 (by omega)]; exact h2
    have h1 : K 1 = nI (sk tp tl i) := k1
    have hJ : ∀ k, k ≠ 1 → k ≠ 2 → K k = I k := fun k h3 h4 => (hK k h3).trans (hJ k h3 h4)
    have h0 : K 0 = nI tl := by rw [hJ 0 (by omega) (by omega)]; exact h09
    obtain ⟨c, hcc⟩ : ∃ z, z = chr tp tl (sk tp tl i) := ⟨_, rfl⟩
    obtain ⟨s, hss⟩ : ∃ z, z = sk tp tl i := ⟨_, rfl⟩
    rw [kindP_chr, ← hcc, ← hss] at e
    rw [← hcc] at hcl ⊢
    rw [← hss] at hsk h1
    have bad : ∀ (v2 v3 : Option Value), nl v2 → nl v3 → kdN c = 0 → R cx 0 0 n σ 108 [some (.ref 42), some (.int (nI k)), v2, v3, v4, v5] [.int (-1)] := by
      intro v2 v3 n2 n3 hk0
      have hv : nl v2 ∧ nl v3 ∧ nl v4 := ⟨n2, n3, hv.2.2⟩
      rw [hk0] at e
      refine R.istn3 hc dX7_puddlesRead_108 (by decide) (by first | rfl | exact hv.1 | exact hv.2.1 | exact hv.2.2) ?_
      refine R.aload_n (j := 0) (i := 0) hc rfl rfl dX7_puddlesRead_109 ?_
      refine R.iload_n (j := 3) (i := 3) hc rfl rfl dX7_puddlesRead_110 ?_
      refine R.if_lt (tgt := 118) hc dX7_puddlesRead_111 (by decide) (fun _ => ?_) (fun z => absurd (by decide) z)
      refine R.iconst hc ic_0 dX7_puddlesRead_118 ?_
      refine R.cVu hc m_X7_must lk_X7_165 dX7_puddlesRead_119 (c_X7_must l (d + 1) X n hR (b := false) h1 h2) (hR.1) rfl rfl rfl (by omega) ⟨Nat.le_refl _, Nat.le_refl _⟩ (Nat.le_of_ble_eq_true rfl) (fun σ hX => ?_)
      obtain ⟨K, hR, h1, h2, hK, hE⟩ := hX
      have hF := hF.tr hE
      have hJ : ∀ k, k ≠ 1 → k ≠ 2 → K k = I k := fun k h3 h4 => (hK k h3 h4).trans (hJ k h3 h4)
      exact F122 σ B K s k _ _ _ _ ⟨by first | rfl | exact hv.1, by first | rfl | exact hv.2.1, by first | rfl | exact hv.2.2⟩ (by omega) (fun v σ' h3 h4 => by rw [← e]; exact ⟨h3, h4⟩) hR hB h1 h2 hJ hF
    have good : ∀ (v2 v3 : Option Value) (kd : Nat), nl v2 → nl v3 → kd < 5 → s < tl → (match sightP tp tl (s + 1) with
          | .inl f => .inl f
          | .inr q2 => match numP tp tl 0 60 q2.2 with
            | .inl f => .inl f
            | .inr q3 => pudP tp tl j (a3 b k kd q2.1 q3.1) (k + 1) q3.2) = res → R cx 0 0 n σ 108 [some (.ref 42), some (.int (nI k)), v2, v3, v4, v5] [.int (nI kd)] := by
      intro v2 v3 kd n2 n3 hkd hst e
      have hv : nl v2 ∧ nl v3 ∧ nl v4 := ⟨n2, n3, hv.2.2⟩
      refine R.istn3 hc dX7_puddlesRead_108 (by decide) (by first | rfl | exact hv.1 | exact hv.2.1 | exact hv.2.2) ?_
      refine R.aload_n (j := 0) (i := 0) hc rfl rfl dX7_puddlesRead_109 ?_
      refine R.iload_n (j := 3) (i := 3) hc rfl rfl dX7_puddlesRead_110 ?_
      refine R.ifN_lt (tgt := 118) hc dX7_puddlesRead_111 (by decide) (by omega) ?_
      refine R.iconst hc ic_1 dX7_puddlesRead_114 ?_
      refine R.goto (tgt := 119) hc dX7_puddlesRead_115 (by decide) ?_
      refine R.cVu hc m_X7_must lk_X7_165 dX7_puddlesRead_119 (c_X7_must l (d + 1) X n hR (b := true) h1 h2) (hR.1) rfl rfl rfl (by omega) ⟨Nat.le_refl _, Nat.le_refl _⟩ (Nat.le_of_ble_eq_true rfl) (fun σ hX => ?_)
      obtain ⟨K, hR, h1, h2, hK, hE⟩ := hX
      have hF := hF.tr hE
      have hJ : ∀ k, k ≠ 1 → k ≠ 2 → K k = I k := fun k h3 h4 => (hK k h3 h4).trans (hJ k h3 h4)
      have h1 : K 1 = nI (s + 1) := h1
      have h2 : K 2 = b2 false := h2
      have h0 : K 0 = nI tl := by rw [hJ 0 (by omega) (by omega)]; exact h09
      refine R.aload_n (j := 0) (i := 0) hc rfl rfl dX7_puddlesRead_122 ?_
      refine R.bipush hc bp_7 dX7_puddlesRead_123 ?_
      refine R.cVg hc m_X7_digit lk_X7_176 dX7_puddlesRead_125 (c_X7_digit l d X n hR hT hU h0 h1 (by omega) h2) (hR.1) rfl rfl rfl (by omega) ⟨Nat.le_refl _, Nat.le_refl _⟩ (Nat.le_of_ble_eq_true rfl) (fun v σ hX => ?_)
      cases hs9 : sightP tp tl (s + 1) with
      | inl f =>
        rw [show stp false (sightP tp tl) (s + 1) = .inl f from hs9] at hX
        rw [hs9] at e
        obtain ⟨⟨y9, rfl⟩, M, hR, h1, h2, hK, hE⟩ := hX
        have hF := hF.tr hE
        have hJ : ∀ k, k ≠ 1 → k ≠ 2 → M k = I k := fun k h3 h4 => (hK k h3 h4).trans (hJ k h3 h4)
        have hfl : f ≤ tl := by
          unfold sightP at hs9
          have := (sk_le (tp := tp) (show s + 1 ≤ tl by omega)).2
          split at hs9
          · cases hs9; exact this
          · split at hs9
            · cases hs9
            · cases hs9; exact this
        refine R.ist4 hc dX7_puddlesRead_128 (by decide) (by first | rfl | exact hv.1 | exact hv.2.1 | exact hv.2.2) ?_
        exact F130 σ B M f k _ _ _ _ ⟨by first | rfl | exact hv.1, by first | rfl | exact hv.2.1, by first | rfl | exact hv.2.2⟩ hfl (fun v σ' h3 h4 => by rw [← e]; exact ⟨h3, h4⟩) hR hB h1 h2 hJ hF
      | inr q2 =>
        rw [show stp false (sightP tp tl) (s + 1) = .inr q2 from hs9] at hX
        rw [hs9] at e
        have hq2 := sightP_ok hs9
        obtain ⟨rfl, M, hR, h1, h2, hK, hE⟩ := hX
        have hF := hF.tr hE
        have hJ : ∀ k, k ≠ 1 → k ≠ 2 → M k = I k := fun k h3 h4 => (hK k h3 h4).trans (hJ k h3 h4)
        have h0 : M 0 = nI tl := by rw [hJ 0 (by omega) (by omega)]; exact h09
        refine R.ist4 hc dX7_puddlesRead_128 (by decide) (by first | rfl | exact hv.1 | exact hv.2.1 | exact hv.2.2) ?_
        refine R.aload_n (j := 0) (i := 0) hc rfl rfl dX7_puddlesRead_130 ?_
        refine R.iconst hc ic_0 dX7_puddlesRead_131 ?_
        refine R.bipush hc bp_60 dX7_puddlesRead_132 ?_
        refine R.cVg hc m_X7_number lk_X7_173 dX7_puddlesRead_134 (c_X7_number l d X n hR hT hU h0 h1 hq2.2 h2 (by omega) (by omega)) (hR.1) rfl rfl rfl (by omega) ⟨Nat.le_refl _, Nat.le_refl _⟩ (Nat.le_of_ble_eq_true rfl) (fun v σ hX => ?_)
        cases hn9 : numP tp tl 0 60 q2.2 with
        | inl f =>
          rw [show stp false (numP tp tl 0 60) q2.2 = .inl f from hn9] at hX
          simp only [hn9] at e
          obtain ⟨⟨y9, rfl⟩, N, hR, h1, h2, hK, hE⟩ := hX
          have hF := hF.tr hE
          have hJ : ∀ k, k ≠ 1 → k ≠ 2 → N k = I k := fun k h3 h4 => (hK k h3 h4).trans (hJ k h3 h4)
          refine R.ist5 hc dX7_puddlesRead_137 (by decide) (by first | rfl | exact hv.1 | exact hv.2.1 | exact hv.2.2) ?_
          exact F139 σ B N f k _ _ _ _ ⟨by first | rfl | exact hv.1, by first | rfl | exact hv.2.1, by first | rfl | exact hv.2.2⟩ (fun v σ' h3 h4 => by rw [← e]; exact ⟨h3, h4⟩) hR hB h1 h2 hJ hF
        | inr q3 =>
          rw [show stp false (numP tp tl 0 60) q2.2 = .inr q3 from hn9] at hX
          simp only [hn9] at e
          have hq3 := numP_ok hn9
          obtain ⟨rfl, N, hR, h1, h2, hK, hE⟩ := hX
          have hF := hF.tr hE
          have hJ : ∀ k, k ≠ 1 → k ≠ 2 → N k = I k := fun k h3 h4 => (hK k h3 h4).trans (hJ k h3 h4)
          refine R.ist5 hc dX7_puddlesRead_137 (by decide) (by first | rfl | exact hv.1 | exact hv.2.1 | exact hv.2.2) ?_
          refine R.aload_n (j := 0) (i := 0) hc rfl rfl dX7_puddlesRead_139 ?_
          refine R.gtV hc gf_X7_158_r dX7_puddlesRead_140 hR.1 rfl (h2) ?_
          refine R.ifB_ne (tgt := 179) hc dX7_puddlesRead_143 (by decide) (fun z => absurd z (by decide)) (fun _ => ?_)
          refine R.aload_n (j := 0) (i := 0) hc rfl rfl dX7_puddlesRead_146 ?_
          refine R.get hc gf_X7_19_r dX7_puddlesRead_147 (hR.1) rfl ?_
          refine R.iconst hc ic_3 dX7_puddlesRead_150 ?_
          refine R.iload_n (j := 1) (i := 1) hc rfl rfl dX7_puddlesRead_151 ?_
          first | refine R.imulN hc dX7_puddlesRead_152 ?_ | refine R.imul hc dX7_puddlesRead_152 ?_
          refine R.iload_n (j := 3) (i := 3) hc rfl rfl dX7_puddlesRead_153 ?_
          refine R.iastG hc dX7_puddlesRead_154 hR.g3 (by omega) (by decide) (fun σ hX hE => ?_)
          have hR := hR.w3 hX hE
          have hF := hF.tr (hE.wid (by omega))
          refine R.aload_n (j := 0) (i := 0) hc rfl rfl dX7_puddlesRead_155 ?_
          refine R.get hc gf_X7_19_r dX7_puddlesRead_156 (hR.1) rfl ?_
          refine R.iconst hc ic_3 dX7_puddlesRead_159 ?_
          refine R.iload_n (j := 1) (i := 1) hc rfl rfl dX7_puddlesRead_160 ?_
          first | refine R.imulN hc dX7_puddlesRead_161 ?_ | refine R.imul hc dX7_puddlesRead_161 ?_
          refine R.iconst hc ic_1 dX7_puddlesRead_162 ?_
          first | refine R.iaddN hc dX7_puddlesRead_163 ?_ | refine R.iadd hc dX7_puddlesRead_163 ?_
          refine R.iload (i := 4) hc rfl dX7_puddlesRead_164 ?_
          refine R.iastG hc dX7_puddlesRead_166 hR.g3 (by omega) (by decide) (fun σ hX hE => ?_)
          have hR := hR.w3 hX hE
          have hF := hF.tr (hE.wid (by omega))
          refine R.aload_n (j := 0) (i := 0) hc rfl rfl dX7_puddlesRead_167 ?_
          refine R.get hc gf_X7_19_r dX7_puddlesRead_168 (hR.1) rfl ?_
          refine R.iconst hc ic_3 dX7_puddlesRead_171 ?_
          refine R.iload_n (j := 1) (i := 1) hc rfl rfl dX7_puddlesRead_172 ?_
          first | refine R.imulN hc dX7_puddlesRead_173 ?_ | refine R.imul hc dX7_puddlesRead_173 ?_
          refine R.iconst hc ic_2 dX7_puddlesRead_174 ?_
          first | refine R.iaddN hc dX7_puddlesRead_175 ?_ | refine R.iadd hc dX7_puddlesRead_175 ?_
          refine R.iload (i := 5) hc rfl dX7_puddlesRead_176 ?_
          refine R.iastG hc dX7_puddlesRead_178 hR.g3 (by omega) (by decide) (fun σ hX hE => ?_)
          have hR := hR.w3 hX hE
          have hF := hF.tr (hE.wid (by omega))
          refine R.iinc1 hc dX7_puddlesRead_179 (iiN1 _) (by decide) rfl ?_
          refine R.goto (tgt := 2) hc dX7_puddlesRead_182 (by decide) ?_
          refine nxt q3.2 _ σ _ N _ _ _ _ ⟨by first | rfl | exact hv.1, by first | rfl | exact hv.2.1, by first | rfl | exact hv.2.2⟩ hq3.2.2 (fun p hp => ?_) e hR (fun k hk => by rw [A2_n hk, A2_n hk, A2_n hk]; exact hB k hk) h1 h2 hJ hF
          rw [A2_s, A2_s, A2_s]
          by_cases y : p = k
          · subst y
            refine ⟨?_, ?_, ?_⟩
            · rw [pk_un (by omega), pk_un (by omega), pk_us]; simp [a3, a2]
            · rw [pk_un (by omega), pk_us]; simp [a3, a2]
            · rw [pk_us]; simp [a3, a2]
          · obtain ⟨g1, g2, g3⟩ := hG p (by omega)
            refine ⟨?_, ?_, ?_⟩
            · rw [pk_un (by omega), pk_un (by omega), pk_un (by omega), g1]; simp [a3, a2, y]
            · rw [pk_un (by omega), pk_un (by omega), pk_un (by omega), g2]; simp [a3, a2, y]
            · rw [pk_un (by omega), pk_un (by omega), pk_un (by omega), g3]; simp [a3, a2, y]
    have hst : kdN c ≠ 0 → s < tl := by
      intro hk
      rcases Nat.lt_or_ge s tl with y | y
      · exact y
      · exfalso
        apply hk
        have : c = 0 := by rw [hcc, ← hss, chr, if_neg (by omega)]
        rw [this]; rfl
    refine R.istn2 hc dX7_puddlesRead_56 (by decide) (by first | rfl | exact hv.1 | exact hv.2.1 | exact hv.2.2) ?_
    refine R.iload_n (j := 2) (i := 2) hc rfl rfl dX7_puddlesRead_57 ?_
    refine R.bipush hc bp_112 dX7_puddlesRead_58 ?_
    refine R.icmpN_ne (tgt := 67) hc dX7_puddlesRead_60 (by decide) (by omega) (by omega) (fun z0 => ?_) (fun z0 => ?_)
    rotate_left
    · subst z0
      refine R.iconst hc ic_0 dX7_puddlesRead_63 ?_
      refine R.goto (tgt := 108) hc dX7_puddlesRead_64 (by decide) ?_
      exact good _ _ 0 rfl hv.2.1 (by omega) (hst (by decide)) e
    refine R.iload_n (j := 2) (i := 2) hc rfl rfl dX7_puddlesRead_67 ?_
    refine R.bipush hc bp_115 dX7_puddlesRead_68 ?_
    refine R.icmpN_ne (tgt := 77) hc dX7_puddlesRead_70 (by decide) (by omega) (by omega) (fun z1 => ?_) (fun z1 => ?_)
    rotate_left
    · subst z1
      refine R.iconst hc ic_1 dX7_puddlesRead_73 ?_
      refine R.goto (tgt := 108) hc dX7_puddlesRead_74 (by decide) ?_
      exact good _ _ 1 rfl hv.2.1 (by omega) (hst (by decide)) e
    refine R.iload_n (j := 2) (i := 2) hc rfl rfl dX7_puddlesRead_77 ?_
    refine R.bipush hc bp_107 dX7_puddlesRead_78 ?_
    refine R.icmpN_ne (tgt := 87) hc dX7_puddlesRead_80 (by decide) (by omega) (by omega) (fun z2 => ?_) (fun z2 => ?_)
    rotate_left
    · subst z2
      refine R.iconst hc ic_2 dX7_puddlesRead_83 ?_
      refine R.goto (tgt := 108) hc dX7_puddlesRead_84 (by decide) ?_
      exact good _ _ 2 rfl hv.2.1 (by omega) (hst (by decide)) e
    refine R.iload_n (j := 2) (i := 2) hc rfl rfl dX7_puddlesRead_87 ?_
    refine R.bipush hc bp_119 dX7_puddlesRead_88 ?_
    refine R.icmpN_ne (tgt := 97) hc dX7_puddlesRead_90 (by decide) (by omega) (by omega) (fun z3 => ?_) (fun z3 => ?_)
    rotate_left
    · subst z3
      refine R.iconst hc ic_3 dX7_puddlesRead_93 ?_
      refine R.goto (tgt := 108) hc dX7_puddlesRead_94 (by decide) ?_
      exact good _ _ 3 rfl hv.2.1 (by omega) (hst (by decide)) e
    refine R.iload_n (j := 2) (i := 2) hc rfl rfl dX7_puddlesRead_97 ?_
    refine R.bipush hc bp_103 dX7_puddlesRead_98 ?_
    refine R.icmpN_ne (tgt := 107) hc dX7_puddlesRead_100 (by decide) (by omega) (by omega) (fun z4 => ?_) (fun z4 => ?_)
    rotate_left
    · subst z4
      refine R.iconst hc ic_4 dX7_puddlesRead_103 ?_
      refine R.goto (tgt := 108) hc dX7_puddlesRead_104 (by decide) ?_
      exact good _ _ 4 rfl hv.2.1 (by omega) (hst (by decide)) e
    refine R.iconst hc ic_m1 dX7_puddlesRead_107 ?_
    exact bad _ _ rfl hv.2.1 (by unfold kdN; rw [if_neg z0, if_neg z1, if_neg z2, if_neg z3, if_neg z4])
  have lp : ∀ (j k i : Nat) (b : SA) (σ : Wd) (B : Nat → Nat → Int32) (J : Nat → Int32) (v2 v3 v4 v5 : Option Value), nl v2 ∧ nl v3 ∧ nl v4 → k + j = 7 → 0 < k → i ≤ tl → PuG b k (B 3) → pudP tp tl j b k i = res → RW σ B L J → (∀ k, k ≠ 3 → B k = A k) → J 1 = nI i → J 2 = b2 false → (∀ k, k ≠ 1 → k ≠ 2 → J k = I k) → Eqo 42 17 σ0 σ → R cx 0 0 n σ 2 [some (.ref 42), some (.int (nI k)), v2, v3, v4, v5] [] := by
    intro j
    induction j with
    | zero =>
      intro k i b σ B J v2 v3 v4 v5 hv hkj hk0 hi hG e hR hB h1 h2 hJ hF
      rw [pudP] at e
      have hk7 : k = 7 := by omega
      have hcl := chr_lt (i := sk tp tl i) hU
      have hsk := sk_le (tp := tp) hi
      have htk := takeB_chr (tp := tp) (tl := tl) (i := i) (show 0 < 44 by omega)
      have h0 : J 0 = nI tl := by rw [hJ 0 (by omega) (by omega)]; exact h0
      have hT : ∀ j, j < tl → B 2 j = nI (tp j) := fun j hj => by rw [hB 2 (by omega)]; exact hT j hj
      refine R.aload_n (j := 0) (i := 0) hc rfl rfl dX7_puddlesRead_2 ?_
      refine R.gtV hc gf_X7_158_r dX7_puddlesRead_3 hR.1 rfl (h2) ?_
      refine R.ifB_ne (tgt := 185) hc dX7_puddlesRead_6 (by decide) (fun z => absurd z (by decide)) (fun _ => ?_)
      refine R.iload_n (j := 1) (i := 1) hc rfl rfl dX7_puddlesRead_9 ?_
      refine R.ifN_eq (tgt := 22) hc dX7_puddlesRead_10 (by decide) (by omega) (fun z => absurd z (by omega)) (fun _ => ?_)
      refine R.aload_n (j := 0) (i := 0) hc rfl rfl dX7_puddlesRead_13 ?_
      refine R.cVi hc m_X7_here lk_X7_162 dX7_puddlesRead_14 (c_X7_here l (d + 1) X n hR hT hU h0 h1 (by omega)) (hR.1) rfl rfl rfl (by omega) ⟨Nat.le_refl _, Nat.le_refl _⟩ (Nat.le_of_ble_eq_true rfl) (fun σ hX => ?_)
      obtain ⟨K, hR, k1, hK, hE⟩ := hX
      have hF := hF.tr hE
      have h2 : K 2 = b2 false := by rw [hK 2 (by omega)]; exact h2
      have h1 : K 1 = nI (sk tp tl i) := k1
      have hJ : ∀ k, k ≠ 1 → k ≠ 2 → K k = I k := fun k h3 h4 => (hK k h3).trans (hJ k h3 h4)
      have h0 : K 0 = nI tl := by rw [hJ 0 (by omega) (by omega)]; exact h09
      refine R.bipush hc bp_44 dX7_puddlesRead_17 ?_
      refine R.icmpN_ne (tgt := 185) hc dX7_puddlesRead_19 (by decide) (by omega) (by omega) (fun z => ?_) (fun z => ?_)
      · rw [decide_eq_false z] at htk
        refine R.iload_n (j := 1) (i := 1) hc rfl rfl dX7_puddlesRead_185 ?_
        refine R.iret hc rfl dX7_puddlesRead_186 ⟨rfl, ?_⟩
        rw [← e]
        show if takeB tp tl 44 i = true then _ else _
        rw [htk, if_neg (by decide)]
        exact ⟨rfl, B, K, hR, hB, hG, h1, h2, hJ, hF⟩
      · rw [decide_eq_true z] at htk
        refine R.iload_n (j := 1) (i := 1) hc rfl rfl dX7_puddlesRead_22 ?_
        refine R.ifN_le (tgt := 41) hc dX7_puddlesRead_23 (by decide) (by omega) (fun y => absurd y (by omega)) (fun _ => ?_)
        refine R.aload_n (j := 0) (i := 0) hc rfl rfl dX7_puddlesRead_26 ?_
        refine R.iload_n (j := 1) (i := 1) hc rfl rfl dX7_puddlesRead_27 ?_
        refine R.bipush hc bp_7 dX7_puddlesRead_28 ?_
        refine R.icmpN_ge (tgt := 37) hc dX7_puddlesRead_30 (by decide) (by omega) (by omega) (fun _ => ?_) (fun y => absurd (by omega) y)
        refine R.iconst hc ic_0 dX7_puddlesRead_37 ?_
        refine R.cVu hc m_X7_must lk_X7_165 dX7_puddlesRead_38 (c_X7_must l (d + 1) X n hR (b := false) h1 h2) (hR.1) rfl rfl rfl (by omega) ⟨Nat.le_refl _, Nat.le_refl _⟩ (Nat.le_of_ble_eq_true rfl) (fun σ hX => ?_)
        obtain ⟨M, hR, h1, h2, hM, hE⟩ := hX
        have hF := hF.tr hE
        have hJ : ∀ k, k ≠ 1 → k ≠ 2 → M k = I k := fun k h3 h4 => (hM k h3 h4).trans (hJ k h3 h4)
        refine F41 σ B M (sk tp tl i) k _ _ _ _ ⟨by first | rfl | exact hv.1, by first | rfl | exact hv.2.1, by first | rfl | exact hv.2.2⟩ (by omega) (fun v σ' h3 h4 => ?_) hR hB h1 h2 hJ hF
        rw [← e]
        show if takeB tp tl 44 i = true then _ else _
        rw [htk, if_pos rfl]
        exact ⟨h3, h4⟩
    | succ j ih =>
      intro k i b σ B J v2 v3 v4 v5 hv hkj hk0 hi hG e hR hB h1 h2 hJ hF
      rw [pudP] at e
      have hcl := chr_lt (i := sk tp tl i) hU
      have hsk := sk_le (tp := tp) hi
      have htk := takeB_chr (tp := tp) (tl := tl) (i := i) (show 0 < 44 by omega)
      have h0 : J 0 = nI tl := by rw [hJ 0 (by omega) (by omega)]; exact h0
      have hT : ∀ j, j < tl → B 2 j = nI (tp j) := fun j hj => by rw [hB 2 (by omega)]; exact hT j hj
      refine R.aload_n (j := 0) (i := 0) hc rfl rfl dX7_puddlesRead_2 ?_
      refine R.gtV hc gf_X7_158_r dX7_puddlesRead_3 hR.1 rfl (h2) ?_
      refine R.ifB_ne (tgt := 185) hc dX7_puddlesRead_6 (by decide) (fun z => absurd z (by decide)) (fun _ => ?_)
      refine R.iload_n (j := 1) (i := 1) hc rfl rfl dX7_puddlesRead_9 ?_
      refine R.ifN_eq (tgt := 22) hc dX7_puddlesRead_10 (by decide) (by omega) (fun z => absurd z (by omega)) (fun _ => ?_)
      refine R.aload_n (j := 0) (i := 0) hc rfl rfl dX7_puddlesRead_13 ?_
      refine R.cVi hc m_X7_here lk_X7_162 dX7_puddlesRead_14 (c_X7_here l (d + 1) X n hR hT hU h0 h1 (by omega)) (hR.1) rfl rfl rfl (by omega) ⟨Nat.le_refl _, Nat.le_refl _⟩ (Nat.le_of_ble_eq_true rfl) (fun σ hX => ?_)
      obtain ⟨K, hR, k1, hK, hE⟩ := hX
      have hF := hF.tr hE
      have h2 : K 2 = b2 false := by rw [hK 2 (by omega)]; exact h2
      have h1 : K 1 = nI (sk tp tl i) := k1
      have hJ : ∀ k, k ≠ 1 → k ≠ 2 → K k = I k := fun k h3 h4 => (hK k h3).trans (hJ k h3 h4)
      have h0 : K 0 = nI tl := by rw [hJ 0 (by omega) (by omega)]; exact h09
      refine R.bipush hc bp_44 dX7_puddlesRead_17 ?_
      refine R.icmpN_ne (tgt := 185) hc dX7_puddlesRead_19 (by decide) (by omega) (by omega) (fun z => ?_) (fun z => ?_)
      · rw [decide_eq_false z] at htk
        rw [if_pos ⟨hk0, htk⟩] at e
        refine R.iload_n (j := 1) (i := 1) hc rfl rfl dX7_puddlesRead_185 ?_
        refine R.iret hc rfl dX7_puddlesRead_186 ⟨rfl, ?_⟩
        rw [← e]
        show if takeB tp tl 44 (sk tp tl i) = true then _ else _
        rw [takeB_sk hi, htk, if_neg (by decide), sk_sk hi]
        exact ⟨rfl, B, K, hR, hB, hG, h1, h2, hJ, hF⟩
      · rw [decide_eq_true z] at htk
        rw [if_neg (by rw [htk]; simp), if_neg (by omega)] at e
        have hst : sk tp tl i < tl := by
          unfold chr at z
          split at z
          · assumption
          · omega
        refine R.iload_n (j := 1) (i := 1) hc rfl rfl dX7_puddlesRead_22 ?_
        refine R.ifN_le (tgt := 41) hc dX7_puddlesRead_23 (by decide) (by omega) (fun y => absurd y (by omega)) (fun _ => ?_)
        refine R.aload_n (j := 0) (i := 0) hc rfl rfl dX7_puddlesRead_26 ?_
        refine R.iload_n (j := 1) (i := 1) hc rfl rfl dX7_puddlesRead_27 ?_
        refine R.bipush hc bp_7 dX7_puddlesRead_28 ?_
        refine R.icmpN_ge (tgt := 37) hc dX7_puddlesRead_30 (by decide) (by omega) (by omega) (fun y => absurd y (by omega)) (fun _ => ?_)
        refine R.iconst hc ic_1 dX7_puddlesRead_33 ?_
        refine R.goto (tgt := 38) hc dX7_puddlesRead_34 (by decide) ?_
        refine R.cVu hc m_X7_must lk_X7_165 dX7_puddlesRead_38 (c_X7_must l (d + 1) X n hR (b := true) h1 h2) (hR.1) rfl rfl rfl (by omega) ⟨Nat.le_refl _, Nat.le_refl _⟩ (Nat.le_of_ble_eq_true rfl) (fun σ hX => ?_)
        obtain ⟨M, hR, h1, h2, hM, hE⟩ := hX
        have hF := hF.tr hE
        have hJ : ∀ k, k ≠ 1 → k ≠ 2 → M k = I k := fun k h3 h4 => (hM k h3 h4).trans (hJ k h3 h4)
        exact G41 j k (sk tp tl i + 1) b σ B M _ _ _ _ ⟨by first | rfl | exact hv.1, by first | rfl | exact hv.2.1, by first | rfl | exact hv.2.2⟩ hkj (by omega) hG e (fun i' b' σ B J v2 v3 v4 v5 hv a1 a2 a3 a4 a5 a6 a7 a8 a9 => ih (k + 1) i' b' σ B J v2 v3 v4 v5 hv (by omega) (by omega) a1 a2 a3 a4 a5 a6 a7 a8 a9) hR hB h1 h2 hJ hF
  rw [pudP, if_neg (by omega), if_pos rfl] at hres
  refine R.iconst hc ic_0 dX7_puddlesRead_0 ?_
  refine R.istn1 hc dX7_puddlesRead_1 (by decide) (by first | rfl | exact hv.1 | exact hv.2.1 | exact hv.2.2) ?_
  refine R.aload_n (j := 0) (i := 0) hc rfl rfl dX7_puddlesRead_2 ?_
  refine R.gtV hc gf_X7_158_r dX7_puddlesRead_3 hR.1 rfl (h2) ?_
  refine R.ifB_ne (tgt := 185) hc dX7_puddlesRead_6 (by decide) (fun z => absurd z (by decide)) (fun _ => ?_)
  refine R.iload_n (j := 1) (i := 1) hc rfl rfl dX7_puddlesRead_9 ?_
  refine R.ifN_eq (tgt := 22) hc dX7_puddlesRead_10 (by decide) (by omega) (fun _ => ?_) (fun z => absurd rfl z)
  refine R.iload_n (j := 1) (i := 1) hc rfl rfl dX7_puddlesRead_22 ?_
  refine R.ifN_le (tgt := 41) hc dX7_puddlesRead_23 (by decide) (by omega) (fun _ => ?_) (fun y => absurd y (by omega))
  exact G41 6 0 0 (fun _ _ => 0) σ A I _ _ _ _ ⟨by first | rfl | exact hv.1, by first | rfl | exact hv.2.1, by first | rfl | exact hv.2.2⟩ rfl (Nat.zero_le _) (fun p hp => absurd hp (by omega)) hres.symm (fun i' b' σ B J v2 v3 v4 v5 hv a1 a2 a3 a4 a5 a6 a7 a8 a9 => lp 6 1 i' b' σ B J v2 v3 v4 v5 hv (by omega) (by omega) a1 a2 a3 a4 a5 a6 a7 a8 a9) hR (fun _ _ => rfl) h1 h2 (fun _ _ _ => rfl) hF
