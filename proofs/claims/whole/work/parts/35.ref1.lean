/-- the last who has claimed it, of the first q -/
def whoL (a : SA) (p : Nat) : Nat → Nat
  | 0 => 0
  | q + 1 => if a 6 q = p + 1 then q + 1 else whoL a p q
theorem whoL_le {a : SA} {p : Nat} : ∀ q, whoL a p q ≤ q := by
  intro q
  induction q with
  | zero => exact Nat.le_refl _
  | succ q ih => rw [whoL]; split <;> omega
theorem whoL_z {a : SA} {p nq : Nat} : whoL a p nq = 0 ↔ (clS a nq).testBit p = false := by
  have h1 : ∀ q, whoL a p q = 0 ↔ ¬ ∃ i, i < q ∧ a 6 i = p + 1 := by
    intro q
    induction q with
    | zero => simp [whoL]
    | succ q ih =>
      rw [whoL]
      split
      · rename_i h
        exact ⟨fun y => by omega, fun y => absurd ⟨q, by omega, h⟩ y⟩
      · rename_i h
        rw [ih]
        refine not_congr ⟨fun ⟨i, h1, h2⟩ => ⟨i, by omega, h2⟩, fun ⟨i, h1, h2⟩ => ⟨i, ?_, h2⟩⟩
        rcases Nat.lt_or_ge i q with y | y
        · exact y
        · exact absurd (by rw [show q = i by omega]; exact h2) h
  rw [h1, ← clS_bit]
  cases (clS a nq).testBit p <;> simp
theorem whoL_F {a : SA} {np nq p : Nat} (hW : WF a np nq) : cI (whoL a p nq) = whoF a p nq 0 := by
  have h1 : ∀ j k, k + j = nq → (∀ i, i < k → a 6 i ≠ p + 1) → cI (whoL a p nq) = whoF a p j k := by
    intro j
    induction j with
    | zero =>
      intro k hk h
      rw [whoF]
      have : whoL a p nq = 0 := by
        rw [whoL_z]
        cases y : (clS a nq).testBit p
        · rfl
        · obtain ⟨i, h1, h2⟩ := (clS_bit a p nq).mp y
          exact absurd h2 (h i (by omega))
      rw [this]; rfl
    | succ j ih =>
      intro k hk h
      rw [whoF]
      split
      · rename_i hh
        have : ∀ m, k < m → m ≤ nq → whoL a p m = k + 1 := by
          intro m
          induction m with
          | zero => intro y _; omega
          | succ m ihm =>
            intro h1 h2
            rw [whoL]
            split
            · rename_i h3
              have := hW.2.2.2.2 m k (by omega) (by omega) (by rw [h3, hh]) (by omega)
              omega
            · rename_i h3
              rcases Nat.lt_or_ge k m with y | y
              · exact ihm y (by omega)
              · exact absurd (by rw [show m = k by omega]; exact hh) h3
        rw [this nq (by omega) (Nat.le_refl _)]; rfl
      · rename_i hh
        exact ih (k + 1) (by omega) (fun i hi => by
          rcases Nat.lt_or_ge i k with y | y
          · exact h i y
          · rw [show i = k by omega]; exact hh)
  exact h1 nq 0 (by omega) (fun i hi => absurd hi (by omega))
set_option maxHeartbeats 4000000 in
set_option maxRecDepth 100000 in
theorem c_X7_whoClaimed (l : Launch) (d : Nat) (X : Nat × (Nat → Int32)) (n : Nat) {σ : Wd} {A : Nat → Nat → Int32} {L : Nat → Nat → Int64} {I : Nat → Int32} (hR : RW σ A L I) {a : SA} {np nq hr dr : Nat} (hN : NowR (A 0) a np nq hr dr) (hW : WF a np nq) {p : Nat} (hp : p < 7) : CN l yX7_whoClaimed cX7_whoClaimed 4 (some .int) ((d + 2)) X n [.ref 42, .int (nI p)] σ (fun v σ' => v = some (.int (cI (whoL a p nq))) ∧ σ' = σ) := by
  refine CN.of (by decide) [some (.ref 42), some (.int (nI p)), none, none] (fun _ => Nat.le_of_ble_eq_true rfl) (fun _ => rfl) (fun cx hc => ?_)
  have hW1 := hW.1
  have hW2 := hW.2.1
  have hF : Eqo 42 17 σ σ := Eqo.rf
  refine R.bipush hc bp_m4 dX7_whoClaimed_0 ?_
  refine R.istn2 hc dX7_whoClaimed_2 (by decide) rfl ?_
  refine R.iconst hc ic_0 dX7_whoClaimed_3 ?_
  refine R.istn3 hc dX7_whoClaimed_4 (by decide) rfl ?_
  refine rl_down (P := fun q => R cx 0 0 n σ 5 [some (.ref 42), some (.int (nI p)), some (.int (cI (whoL a p q))), some (.int (nI q))] []) nq ?_ (fun q hq ih => ?_) 0 (Nat.zero_le _)
  · refine R.iload_n (j := 3) (i := 3) hc rfl rfl dX7_whoClaimed_5 ?_
    refine R.aload_n (j := 0) (i := 0) hc rfl rfl dX7_whoClaimed_6 ?_
    refine R.get hc gf_X7_7_r dX7_whoClaimed_7 (hR.1) rfl ?_
    refine R.iconst hc ic_1 dX7_whoClaimed_10 ?_
    refine R.ialdV hc hR.g0 (by omega) (by decide) dX7_whoClaimed_11 (hN.2.1) ?_
    refine R.icmpN_ge (tgt := 36) hc dX7_whoClaimed_12 (by decide) (by omega) (by omega) (fun _ => ?_) (fun z => absurd (Nat.le_refl _) z)
    refine R.iload_n (j := 2) (i := 2) hc rfl rfl dX7_whoClaimed_36 ?_
    exact R.iret hc rfl dX7_whoClaimed_37 ⟨rfl, rfl, rfl⟩
  · have h6 := (hW.2.2.2.1 q hq).2.2.2
    rw [whoL] at ih
    refine R.iload_n (j := 3) (i := 3) hc rfl rfl dX7_whoClaimed_5 ?_
    refine R.aload_n (j := 0) (i := 0) hc rfl rfl dX7_whoClaimed_6 ?_
    refine R.get hc gf_X7_7_r dX7_whoClaimed_7 (hR.1) rfl ?_
    refine R.iconst hc ic_1 dX7_whoClaimed_10 ?_
    refine R.ialdV hc hR.g0 (by omega) (by decide) dX7_whoClaimed_11 (hN.2.1) ?_
    refine R.icmpN_ge (tgt := 36) hc dX7_whoClaimed_12 (by decide) (by omega) (by omega) (fun z => absurd z (by omega)) (fun _ => ?_)
    refine R.aload_n (j := 0) (i := 0) hc rfl rfl dX7_whoClaimed_15 ?_
    refine R.iload_n (j := 3) (i := 3) hc rfl rfl dX7_whoClaimed_16 ?_
    refine R.cVr hc m_X7_claimed lk_X7_70 dX7_whoClaimed_17 (n_X7_claimed l d X n hR hN hW (by omega)) (hR.1) rfl rfl rfl (by omega) ⟨Nat.le_refl _, Nat.le_refl _⟩ (Nat.le_of_ble_eq_true rfl) ?_
    refine R.iload_n (j := 1) (i := 1) hc rfl rfl dX7_whoClaimed_20 ?_
    refine R.icmp_ne (tgt := 28) hc dX7_whoClaimed_21 (by decide) (fun z => ?_) (fun z => ?_)
    · rw [if_neg (fun y => z ((cI_eq (by omega) (by omega)).mpr y))] at ih
      refine R.iload_n (j := 2) (i := 2) hc rfl rfl dX7_whoClaimed_28 ?_
      refine R.istn2 hc dX7_whoClaimed_29 (by decide) rfl ?_
      refine R.iinc3 hc dX7_whoClaimed_30 (iiN1 _) (by decide) rfl ?_
      refine R.goto (tgt := 5) hc dX7_whoClaimed_33 (by decide) ?_
      exact ih
    · rw [if_pos ((cI_eq (by omega) (by omega)).mp z)] at ih
      refine R.iload_n (j := 3) (i := 3) hc rfl rfl dX7_whoClaimed_24 ?_
      refine R.goto (tgt := 29) hc dX7_whoClaimed_25 (by decide) ?_
      refine R.istn2 hc dX7_whoClaimed_29 (by decide) rfl ?_
      refine R.iinc3 hc dX7_whoClaimed_30 (iiN1 _) (by decide) rfl ?_
      refine R.goto (tgt := 5) hc dX7_whoClaimed_33 (by decide) ?_
      exact ih
def dryI (a : SA) (np : Nat) (x : Int32) : Bool := inI x np && dryB a (tN x)
set_option maxHeartbeats 4000000 in
set_option maxRecDepth 100000 in
theorem c_X7_isDry (l : Launch) (d : Nat) (X : Nat × (Nat → Int32)) (n : Nat) {σ : Wd} {A : Nat → Nat → Int32} {L : Nat → Nat → Int64} {I : Nat → Int32} (hR : RW σ A L I) {a : SA} {np nq hr dr : Nat} (hN : NowR (A 0) a np nq hr dr) (hW : WF a np nq) (x : Int32) : CN l yX7_isDry cX7_isDry 2 (some .boolean) ((d + 2)) X n [.ref 42, .int x] σ (fun v σ' => v = some (.int (b2 (dryI a np x))) ∧ σ' = σ) := by
  refine CN.of (by decide) [some (.ref 42), some (.int x)] (fun _ => Nat.le_of_ble_eq_true rfl) (fun _ => rfl) (fun cx hc => ?_)
  have hW1 := hW.1
  have hW2 := hW.2.1
  have hF : Eqo 42 17 σ σ := Eqo.rf
  refine R.aload_n (j := 0) (i := 0) hc rfl rfl dX7_isDry_0 ?_
  refine R.iload_n (j := 1) (i := 1) hc rfl rfl dX7_isDry_1 ?_
  refine R.cVr hc m_X7_isPuddle lk_X7_74 dX7_isDry_2 (c_X7_isPuddle l d X n hR hN hW _) (hR.1) rfl rfl rfl (by omega) ⟨Nat.le_refl _, Nat.le_refl _⟩ (Nat.le_of_ble_eq_true rfl) ?_
  refine R.ifB_eq (tgt := 20) hc dX7_isDry_5 (by decide) (fun z => ?_) (fun z => ?_)
  · refine R.iconst hc ic_0 dX7_isDry_20 ?_
    have e9 : nI 0 = b2 (dryI a np x) := by
      simp [dryI, z, b2]; rfl
    exact R.bret hc rfl dX7_isDry_21 e9 ⟨rfl, congrArg (fun z => some (Value.int z)) e9, rfl⟩
  obtain ⟨j, rfl, hj, t⟩ := inI_tN (by omega) z
  have h2 := (hW.2.2.1 j hj).2.2
  refine R.aload_n (j := 0) (i := 0) hc rfl rfl dX7_isDry_8 ?_
  refine R.iload_n (j := 1) (i := 1) hc rfl rfl dX7_isDry_9 ?_
  refine R.cVr hc m_X7_deep lk_X7_78 dX7_isDry_10 (n_X7_deep l d X n hR hN hW (by omega)) (hR.1) rfl rfl rfl (by omega) ⟨Nat.le_refl _, Nat.le_refl _⟩ (Nat.le_of_ble_eq_true rfl) ?_
  refine R.ifN_ne (tgt := 20) hc dX7_isDry_13 (by decide) (by omega) (fun y => ?_) (fun y => ?_)
  · refine R.iconst hc ic_0 dX7_isDry_20 ?_
    have e9 : nI 0 = b2 (dryI a np (nI j)) := by
      simp [dryI, z, t, dryB, y, b2]; rfl
    exact R.bret hc rfl dX7_isDry_21 e9 ⟨rfl, congrArg (fun z => some (Value.int z)) e9, rfl⟩
  · refine R.iconst hc ic_1 dX7_isDry_16 ?_
    refine R.goto (tgt := 21) hc dX7_isDry_17 (by decide) ?_
    have e9 : nI 1 = b2 (dryI a np (nI j)) := by
      simp [dryI, z, t, dryB, y, b2]; rfl
    exact R.bret hc rfl dX7_isDry_21 e9 ⟨rfl, congrArg (fun z => some (Value.int z)) e9, rfl⟩
theorem dryI_n {a : SA} {np p : Nat} (hp : p < 100) (hn : np ≤ 7) : dryI a np (nI p) = decide (p < np ∧ a 2 p = 0) := by
  unfold dryI dryB
  rw [tN_nI (by omega)]
  have h9 : inI (nI p) np = decide (p < np) := by
    unfold inI
    exact decide_eq_decide.mpr ⟨fun h => (nI_ltI (by omega) (by omega)).mp h.2, fun h => ⟨nI_pos (by omega), (nI_ltI (by omega) (by omega)).mpr h⟩⟩
  rw [h9]
  by_cases h1 : p < np <;> by_cases h2 : a 2 p = 0 <;> simp [h1, h2]
theorem dryI_m {a : SA} {np : Nat} : dryI a np (nI 0 - nI 1) = false := by
  have : nI 0 - nI 1 < 0 := by decide
  simp [dryI, inI, this]
set_option maxHeartbeats 4000000 in
set_option maxRecDepth 100000 in
theorem c_X7_less (l : Launch) (d : Nat) (X : Nat × (Nat → Int32)) (n : Nat) {σ : Wd} {A : Nat → Nat → Int32} {L : Nat → Nat → Int64} {I : Nat → Int32} (hR : RW σ A L I) {a : SA} {np nq hr dr : Nat} (hN : NowR (A 0) a np nq hr dr) (hW : WF a np nq) (hh : hr < 2 ^ 31) {p : Nat} (hp : p < np) : CN l yX7_less cX7_less 3 (some .int) ((d + 3)) X n [.ref 42, .int (nI p)] σ (fun v σ' => v = some (.int (nI (less a np hr p))) ∧ σ' = σ) := by
  refine CN.of (by decide) [some (.ref 42), some (.int (nI p)), none] (fun _ => Nat.le_of_ble_eq_true rfl) (fun _ => rfl) (fun cx hc => ?_)
  have hW1 := hW.1
  have hW2 := hW.2.1
  have hF : Eqo 42 17 σ σ := Eqo.rf
  obtain ⟨h0, h1, h2⟩ := hW.2.2.1 p hp
  have fin : R cx 0 0 n σ 17 [some (.ref 42), some (.int (nI p)), some (.int (nI (kerb hr)))] [] := by
    refine R.aload_n (j := 0) (i := 0) hc rfl rfl dX7_less_17 ?_
    refine R.iload_n (j := 1) (i := 1) hc rfl rfl dX7_less_18 ?_
    refine R.iconst hc ic_0 dX7_less_19 ?_
    refine R.cVr hc m_X7_ofPuddle lk_X7_63 dX7_less_20 (n_X7_ofPuddle l (d + 2) X n hR hN hW (by omega) (by omega)) (hR.1) rfl rfl rfl (by omega) ⟨Nat.le_refl _, Nat.le_refl _⟩ (Nat.le_of_ble_eq_true rfl) ?_
    obtain ⟨k, hk⟩ : ∃ k, k = a 0 p := ⟨_, rfl⟩
    rw [less] at hc
    rw [← hk] at hc h0 ⊢
    rcases (by omega : k = 0 ∨ k = 1 ∨ k = 2 ∨ k = 3 ∨ k = 4) with rfl | rfl | rfl | rfl | rfl
    · refine R.tabIn (x := nI 0) (off := 29) (tgt := 52) hc dX7_less_23 (by decide) (by decide) (by decide) (by decide) ?_
      refine R.iconst hc ic_2 dX7_less_52 ?_
      exact R.iret hc rfl dX7_less_53 ⟨rfl, rfl, rfl⟩
    · refine R.tabIn (x := nI 1) (off := 31) (tgt := 54) hc dX7_less_23 (by decide) (by decide) (by decide) (by decide) ?_
      refine R.iconst hc ic_1 dX7_less_54 ?_
      exact R.iret hc rfl dX7_less_55 ⟨rfl, rfl, rfl⟩
    · refine R.tabIn (x := nI 2) (off := 33) (tgt := 56) hc dX7_less_23 (by decide) (by decide) (by decide) (by decide) ?_
      refine R.iload_n (j := 2) (i := 2) hc rfl rfl dX7_less_56 ?_
      exact R.iret hc rfl dX7_less_57 ⟨rfl, rfl, rfl⟩
    · refine R.tabIn (x := nI 3) (off := 35) (tgt := 58) hc dX7_less_23 (by decide) (by decide) (by decide) (by decide) ?_
      refine R.aload_n (j := 0) (i := 0) hc rfl rfl dX7_less_58 ?_
      refine R.iload_n (j := 1) (i := 1) hc rfl rfl dX7_less_59 ?_
      refine R.cVr hc m_X7_deep lk_X7_78 dX7_less_60 (n_X7_deep l (d + 1) X n hR hN hW (by omega)) (hR.1) rfl rfl rfl (by omega) ⟨Nat.le_refl _, Nat.le_refl _⟩ (Nat.le_of_ble_eq_true rfl) ?_
      refine R.bipush hc bp_30 dX7_less_63 ?_
      refine R.icmpN_lt (tgt := 72) hc dX7_less_65 (by decide) (by omega) (by omega) (fun z => ?_) (fun z => ?_)
      · refine R.iconst hc ic_1 dX7_less_72 ?_
        exact R.iret hc rfl dX7_less_73 ⟨rfl, by simp [show ¬ 30 ≤ a 2 p by omega], rfl⟩
      · refine R.iconst hc ic_0 dX7_less_68 ?_
        refine R.goto (tgt := 73) hc dX7_less_69 (by decide) ?_
        exact R.iret hc rfl dX7_less_73 ⟨rfl, by simp [show 30 ≤ a 2 p by omega], rfl⟩
    · refine R.tabOut (x := nI 4) (tgt := 74) hc dX7_less_23 (by decide) (by decide) ?_
      simp only [show ¬ (4 : Nat) = 1 by omega, show ¬ (4 : Nat) = 2 by omega, show ¬ (4 : Nat) = 3 by omega, if_false, if_true] at hc
      have nx : R cx 0 0 n σ 91 [some (.ref 42), some (.int (nI p)), some (.int (nI (kerb hr)))] [.int (nI (kerb hr + (if 0 < p ∧ a 2 (p - 1) = 0 then 2 else 0)))] := by
        refine R.aload_n (j := 0) (i := 0) hc rfl rfl dX7_less_91 ?_
        refine R.iload_n (j := 1) (i := 1) hc rfl rfl dX7_less_92 ?_
        refine R.iconst hc ic_1 dX7_less_93 ?_
        first | refine R.iaddN hc dX7_less_94 ?_ | refine R.iadd hc dX7_less_94 ?_
        refine R.cVr hc m_X7_isDry lk_X7_81 dX7_less_95 (c_X7_isDry l d X n hR hN hW _) (hR.1) rfl rfl rfl (by omega) ⟨Nat.le_refl _, Nat.le_refl _⟩ (Nat.le_of_ble_eq_true rfl) ?_
        rw [dryI_n (by omega) hW1]
        refine R.ifB_eq (tgt := 105) hc dX7_less_98 (by decide) (fun z => ?_) (fun z => ?_)
        · have z : ¬ (p + 1 < np ∧ a 2 (p + 1) = 0) := of_decide_eq_false z
          refine R.iconst hc ic_0 dX7_less_105 ?_
          first | refine R.iaddN hc dX7_less_106 ?_ | refine R.iadd hc dX7_less_106 ?_
          exact R.iret hc rfl dX7_less_107 ⟨rfl, by rw [nbd, if_neg z]; split <;> rfl, rfl⟩
        · have z : p + 1 < np ∧ a 2 (p + 1) = 0 := of_decide_eq_true z
          refine R.iconst hc ic_2 dX7_less_101 ?_
          refine R.goto (tgt := 106) hc dX7_less_102 (by decide) ?_
          first | refine R.iaddN hc dX7_less_106 ?_ | refine R.iadd hc dX7_less_106 ?_
          exact R.iret hc rfl dX7_less_107 ⟨rfl, by rw [nbd, if_pos z]; split <;> rfl, rfl⟩
      cases p with
      | zero =>
        refine R.iload_n (j := 2) (i := 2) hc rfl rfl dX7_less_74 ?_
        refine R.aload_n (j := 0) (i := 0) hc rfl rfl dX7_less_75 ?_
        refine R.iload_n (j := 1) (i := 1) hc rfl rfl dX7_less_76 ?_
        refine R.iconst hc ic_1 dX7_less_77 ?_
        refine R.isub hc dX7_less_78 ?_
        refine R.cVr hc m_X7_isDry lk_X7_81 dX7_less_79 (c_X7_isDry l d X n hR hN hW _) (hR.1) rfl rfl rfl (by omega) ⟨Nat.le_refl _, Nat.le_refl _⟩ (Nat.le_of_ble_eq_true rfl) ?_
        rw [dryI_m]
        refine R.ifB_eq (tgt := 89) hc dX7_less_82 (by decide) (fun z => ?_) (fun z => absurd z (by decide))
        refine R.iconst hc ic_0 dX7_less_89 ?_
        first | refine R.iaddN hc dX7_less_90 ?_ | refine R.iadd hc dX7_less_90 ?_
        exact nx
      | succ p =>
        refine R.iload_n (j := 2) (i := 2) hc rfl rfl dX7_less_74 ?_
        refine R.aload_n (j := 0) (i := 0) hc rfl rfl dX7_less_75 ?_
        refine R.iload_n (j := 1) (i := 1) hc rfl rfl dX7_less_76 ?_
        refine R.iconst hc ic_1 dX7_less_77 ?_
        first | refine R.isubN hc (by omega) dX7_less_78 ?_ | refine R.isub hc dX7_less_78 ?_
        refine R.cVr hc m_X7_isDry lk_X7_81 dX7_less_79 (c_X7_isDry l d X n hR hN hW _) (hR.1) rfl rfl rfl (by omega) ⟨Nat.le_refl _, Nat.le_refl _⟩ (Nat.le_of_ble_eq_true rfl) ?_
        rw [show p + 1 - 1 = p by omega, dryI_n (by omega) hW1]
        have e8 : (if 0 < p + 1 ∧ a 2 (p + 1 - 1) = 0 then 2 else 0) = (if a 2 p = 0 then 2 else 0) := by simp
        rw [e8] at nx
        refine R.ifB_eq (tgt := 89) hc dX7_less_82 (by decide) (fun z => ?_) (fun z => ?_)
        · have z : ¬ (p < np ∧ a 2 p = 0) := of_decide_eq_false z
          rw [if_neg (fun y => z ⟨by omega, y⟩)] at nx
          refine R.iconst hc ic_0 dX7_less_89 ?_
          first | refine R.iaddN hc dX7_less_90 ?_ | refine R.iadd hc dX7_less_90 ?_
          exact nx
        · have z : p < np ∧ a 2 p = 0 := of_decide_eq_true z
          rw [if_pos z.2] at nx
          refine R.iconst hc ic_2 dX7_less_85 ?_
          refine R.goto (tgt := 90) hc dX7_less_86 (by decide) ?_
          first | refine R.iaddN hc dX7_less_90 ?_ | refine R.iadd hc dX7_less_90 ?_
          exact nx
  refine R.aload_n (j := 0) (i := 0) hc rfl rfl dX7_less_0 ?_
  refine R.get hc gf_X7_7_r dX7_less_1 (hR.1) rfl ?_
  refine R.iconst hc ic_2 dX7_less_4 ?_
  refine R.ialdV hc hR.g0 (by omega) (by decide) dX7_less_5 (hN.2.2.1) ?_
  refine R.iconst hc ic_2 dX7_less_6 ?_
  first | refine R.iremN hc (by omega) (by omega) (by omega) dX7_less_7 ?_ | refine R.irem hc (by decide) dX7_less_7 ?_
  have h9 := Nat.mod_lt hr (show 0 < 2 by omega)
  refine R.ifN_ne (tgt := 15) hc dX7_less_8 (by decide) (by omega) (fun z => ?_) (fun z => ?_)
  · refine R.iconst hc ic_2 dX7_less_15 ?_
    refine R.istn2 hc dX7_less_16 (by decide) rfl ?_
    rw [kerb, if_neg z] at fin
    exact fin
  · refine R.iconst hc ic_4 dX7_less_11 ?_
    refine R.goto (tgt := 16) hc dX7_less_12 (by decide) ?_
    refine R.istn2 hc dX7_less_16 (by decide) rfl ?_
    rw [kerb, if_pos z] at fin
    exact fin
set_option maxHeartbeats 4000000 in
set_option maxRecDepth 100000 in
theorem c_X7_fits (l : Launch) (d : Nat) (X : Nat × (Nat → Int32)) (n : Nat) {σ : Wd} {A : Nat → Nat → Int32} {L : Nat → Nat → Int64} {I : Nat → Int32} (hR : RW σ A L I) {a : SA} {np nq hr dr : Nat} (hN : NowR (A 0) a np nq hr dr) (hW : WF a np nq) {q p : Nat} (hq : q < nq) (hp : p < np) : CN l yX7_fits cX7_fits 3 (some .boolean) ((d + 3)) X n [.ref 42, .int (nI q), .int (nI p)] σ (fun v σ' => v = some (.int (b2 (fitB a (clS a nq) p q (a 2 p)))) ∧ σ' = σ) := by
  refine CN.of (by decide) [some (.ref 42), some (.int (nI q)), some (.int (nI p))] (fun _ => Nat.le_of_ble_eq_true rfl) (fun _ => rfl) (fun cx hc => ?_)
  have hW1 := hW.1
  have hW2 := hW.2.1
  have hF : Eqo 42 17 σ σ := Eqo.rf
  obtain ⟨h0, h1, h2⟩ := hW.2.2.1 p hp
  obtain ⟨g0, g1, g2, g3⟩ := hW.2.2.2.1 q hq
  have gw := whoL_le (a := a) (p := p) nq
  have g0b : a (3 + 0) q < 8 := g0
  have g2b : a (3 + 2) q ≤ 30 := g2.2
  refine R.aload_n (j := 0) (i := 0) hc rfl rfl dX7_fits_0 ?_
  refine R.iload_n (j := 2) (i := 2) hc rfl rfl dX7_fits_1 ?_
  refine R.iconst hc ic_1 dX7_fits_2 ?_
  refine R.cVr hc m_X7_ofPuddle lk_X7_63 dX7_fits_3 (n_X7_ofPuddle l (d + 2) X n hR hN hW (by omega) (by omega)) (hR.1) rfl rfl rfl (by omega) ⟨Nat.le_refl _, Nat.le_refl _⟩ (Nat.le_of_ble_eq_true rfl) ?_
  refine R.aload_n (j := 0) (i := 0) hc rfl rfl dX7_fits_6 ?_
  refine R.iload_n (j := 1) (i := 1) hc rfl rfl dX7_fits_7 ?_
  refine R.iconst hc ic_0 dX7_fits_8 ?_
  refine R.cVr hc m_X7_ofPerson lk_X7_67 dX7_fits_9 (n_X7_ofPerson l (d + 2) X n hR hN hW (by omega) (by omega)) (hR.1) rfl rfl rfl (by omega) ⟨Nat.le_refl _, Nat.le_refl _⟩ (Nat.le_of_ble_eq_true rfl) ?_
  refine R.icmpN_ne (tgt := 43) hc dX7_fits_12 (by decide) (by omega) (by omega) (fun z => ?_) (fun z => ?_)
  · have z : ¬ a 1 p = a 3 q := z
    refine R.iconst hc ic_0 dX7_fits_43 ?_
    have e9 : nI 0 = b2 (fitB a (clS a nq) p q (a 2 p)) := by
      simp [fitB, z, b2]; rfl
    exact R.bret hc rfl dX7_fits_44 e9 ⟨rfl, congrArg (fun z => some (Value.int z)) e9, rfl⟩
  refine R.aload_n (j := 0) (i := 0) hc rfl rfl dX7_fits_15 ?_
  refine R.iload_n (j := 2) (i := 2) hc rfl rfl dX7_fits_16 ?_
  refine R.cVr hc m_X7_deep lk_X7_78 dX7_fits_17 (n_X7_deep l (d + 1) X n hR hN hW (by omega)) (hR.1) rfl rfl rfl (by omega) ⟨Nat.le_refl _, Nat.le_refl _⟩ (Nat.le_of_ble_eq_true rfl) ?_
  refine R.aload_n (j := 0) (i := 0) hc rfl rfl dX7_fits_20 ?_
  refine R.iload_n (j := 1) (i := 1) hc rfl rfl dX7_fits_21 ?_
  refine R.iconst hc ic_2 dX7_fits_22 ?_
  refine R.cVr hc m_X7_ofPerson lk_X7_67 dX7_fits_23 (n_X7_ofPerson l (d + 2) X n hR hN hW (by omega) (by omega)) (hR.1) rfl rfl rfl (by omega) ⟨Nat.le_refl _, Nat.le_refl _⟩ (Nat.le_of_ble_eq_true rfl) ?_
  refine R.icmpN_lt (tgt := 43) hc dX7_fits_26 (by decide) (by omega) (by omega) (fun y => ?_) (fun y => ?_)
  · refine R.iconst hc ic_0 dX7_fits_43 ?_
    have e9 : nI 0 = b2 (fitB a (clS a nq) p q (a 2 p)) := by
      simp [fitB, show ¬ a 5 q ≤ a 2 p from Nat.not_le.mpr y, b2]; rfl
    exact R.bret hc rfl dX7_fits_44 e9 ⟨rfl, congrArg (fun z => some (Value.int z)) e9, rfl⟩
  have y : a 5 q ≤ a 2 p := Nat.not_lt.mp y
  have z : a 1 p = a 3 q := z
  refine R.aload_n (j := 0) (i := 0) hc rfl rfl dX7_fits_29 ?_
  refine R.iload_n (j := 2) (i := 2) hc rfl rfl dX7_fits_30 ?_
  refine R.cVr hc m_X7_whoClaimed lk_X7_84 dX7_fits_31 (c_X7_whoClaimed l d X n hR hN hW (by omega)) (hR.1) rfl rfl rfl (by omega) ⟨Nat.le_refl _, Nat.le_refl _⟩ (Nat.le_of_ble_eq_true rfl) ?_
  refine R.bipush hc bp_m4 dX7_fits_34 ?_
  refine R.icmp_ne (tgt := 43) hc dX7_fits_36 (by decide) (fun w => ?_) (fun w => ?_)
  · have w : (clS a nq).testBit p = true := by
      cases u : (clS a nq).testBit p
      · exact absurd ((cI_n4 (by omega)).mpr (whoL_z.mpr u)) w
      · rfl
    refine R.iconst hc ic_0 dX7_fits_43 ?_
    have e9 : nI 0 = b2 (fitB a (clS a nq) p q (a 2 p)) := by
      simp [fitB, w, b2]; rfl
    exact R.bret hc rfl dX7_fits_44 e9 ⟨rfl, congrArg (fun z => some (Value.int z)) e9, rfl⟩
  · have w := whoL_z.mp ((cI_n4 (by omega)).mp w)
    refine R.iconst hc ic_1 dX7_fits_39 ?_
    refine R.goto (tgt := 44) hc dX7_fits_40 (by decide) ?_
    have e9 : nI 1 = b2 (fitB a (clS a nq) p q (a 2 p)) := by
      simp [fitB, z, y, w, b2]; rfl
    exact R.bret hc rfl dX7_fits_44 e9 ⟨rfl, congrArg (fun z => some (Value.int z)) e9, rfl⟩
set_option maxHeartbeats 4000000 in
set_option maxRecDepth 100000 in
theorem c_X7_fitsFor (l : Launch) (d : Nat) (X : Nat × (Nat → Int32)) (n : Nat) {σ : Wd} {A : Nat → Nat → Int32} {L : Nat → Nat → Int64} {I : Nat → Int32} (hR : RW σ A L I) {a : SA} {np nq hr dr : Nat} (hN : NowR (A 0) a np nq hr dr) (hW : WF a np nq) {q : Nat} (hq : q < nq) : CN l yX7_fitsFor cX7_fitsFor 4 (some .int) ((d + 4)) X n [.ref 42, .int (nI q)] σ (fun v σ' => v = some (.int (nI (bsN (fun p => fitB a (clS a nq) p q (a 2 p)) np))) ∧ σ' = σ) := by
  refine CN.of (by decide) [some (.ref 42), some (.int (nI q)), none, none] (fun _ => Nat.le_of_ble_eq_true rfl) (fun _ => rfl) (fun cx hc => ?_)
  have hW1 := hW.1
  have hW2 := hW.2.1
  have hF : Eqo 42 17 σ σ := Eqo.rf
  refine R.iconst hc ic_0 dX7_fitsFor_0 ?_
  refine R.istn2 hc dX7_fitsFor_1 (by decide) rfl ?_
  refine R.iconst hc ic_0 dX7_fitsFor_2 ?_
  refine R.istn3 hc dX7_fitsFor_3 (by decide) rfl ?_
  refine rl_down (P := fun p => R cx 0 0 n σ 4 [some (.ref 42), some (.int (nI q)), some (.int (nI (bsN (fun p => fitB a (clS a nq) p q (a 2 p)) p))), some (.int (nI p))] []) np ?_ (fun p hp ih => ?_) 0 (Nat.zero_le _)
  · refine R.iload_n (j := 3) (i := 3) hc rfl rfl dX7_fitsFor_4 ?_
    refine R.aload_n (j := 0) (i := 0) hc rfl rfl dX7_fitsFor_5 ?_
    refine R.get hc gf_X7_7_r dX7_fitsFor_6 (hR.1) rfl ?_
    refine R.iconst hc ic_0 dX7_fitsFor_9 ?_
    refine R.ialdV hc hR.g0 (by omega) (by decide) dX7_fitsFor_10 (hN.1) ?_
    refine R.icmpN_ge (tgt := 39) hc dX7_fitsFor_11 (by decide) (by omega) (by omega) (fun _ => ?_) (fun z => absurd (Nat.le_refl _) z)
    refine R.iload_n (j := 2) (i := 2) hc rfl rfl dX7_fitsFor_39 ?_
    exact R.iret hc rfl dX7_fitsFor_40 ⟨rfl, rfl, rfl⟩
  · rw [bsN] at ih
    refine R.iload_n (j := 3) (i := 3) hc rfl rfl dX7_fitsFor_4 ?_
    refine R.aload_n (j := 0) (i := 0) hc rfl rfl dX7_fitsFor_5 ?_
    refine R.get hc gf_X7_7_r dX7_fitsFor_6 (hR.1) rfl ?_
    refine R.iconst hc ic_0 dX7_fitsFor_9 ?_
    refine R.ialdV hc hR.g0 (by omega) (by decide) dX7_fitsFor_10 (hN.1) ?_
    refine R.icmpN_ge (tgt := 39) hc dX7_fitsFor_11 (by decide) (by omega) (by omega) (fun z => absurd z (by omega)) (fun _ => ?_)
    refine R.iload_n (j := 2) (i := 2) hc rfl rfl dX7_fitsFor_14 ?_
    refine R.aload_n (j := 0) (i := 0) hc rfl rfl dX7_fitsFor_15 ?_
    refine R.iload_n (j := 1) (i := 1) hc rfl rfl dX7_fitsFor_16 ?_
    refine R.iload_n (j := 3) (i := 3) hc rfl rfl dX7_fitsFor_17 ?_
    refine R.cVr hc m_X7_fits lk_X7_87 dX7_fitsFor_18 (c_X7_fits l d X n hR hN hW (by omega) (by omega)) (hR.1) rfl rfl rfl (by omega) ⟨Nat.le_refl _, Nat.le_refl _⟩ (Nat.le_of_ble_eq_true rfl) ?_
    refine R.ifB_eq (tgt := 30) hc dX7_fitsFor_21 (by decide) (fun z => ?_) (fun z => ?_)
    · rw [if_neg (by rw [z]; decide)] at ih
      refine R.iconst hc ic_0 dX7_fitsFor_30 ?_
      first | refine R.iorN hc dX7_fitsFor_31 ?_ | refine R.ior hc dX7_fitsFor_31 ?_
      refine R.istn2 hc dX7_fitsFor_32 (by decide) rfl ?_
      refine R.iinc3 hc dX7_fitsFor_33 (iiN1 _) (by decide) rfl ?_
      refine R.goto (tgt := 4) hc dX7_fitsFor_36 (by decide) ?_
      exact ih
    · rw [if_pos z] at ih
      refine R.iconst hc ic_1 dX7_fitsFor_24 ?_
      refine R.iload_n (j := 3) (i := 3) hc rfl rfl dX7_fitsFor_25 ?_
      first | refine R.shl1N hc (by omega) dX7_fitsFor_26 ?_ | refine R.ishl hc dX7_fitsFor_26 ?_
      refine R.goto (tgt := 31) hc dX7_fitsFor_27 (by decide) ?_
      first | refine R.iorN hc dX7_fitsFor_31 ?_ | refine R.ior hc dX7_fitsFor_31 ?_
      refine R.istn2 hc dX7_fitsFor_32 (by decide) rfl ?_
      refine R.iinc3 hc dX7_fitsFor_33 (iiN1 _) (by decide) rfl ?_
      refine R.goto (tgt := 4) hc dX7_fitsFor_36 (by decide) ?_
      exact ih
set_option maxHeartbeats 4000000 in
set_option maxRecDepth 100000 in
theorem c_X7_looks (l : Launch) (d : Nat) (X : Nat × (Nat → Int32)) (n : Nat) {σ : Wd} {A : Nat → Nat → Int32} {L : Nat → Nat → Int64} {I : Nat → Int32} (hR : RW σ A L I) {a : SA} {np nq hr dr : Nat} (hN : NowR (A 0) a np nq hr dr) (hW : WF a np nq) {q : Nat} (hq : q < nq) : CN l yX7_looks cX7_looks 4 none ((d + 4)) X n [.ref 42, .int (nI q)] σ (fun v σ' => v = none ∧ (RW σ' (A2 A 0 (25 + 4 * q + 3) (cI (dft (fun p => fitB a (clS a nq) p q (a 2 p)) (a 2) np))) L I ∧ Eqo 42 17 σ σ')) := by
  refine CN.of (by decide) [some (.ref 42), some (.int (nI q)), none, none] (fun _ => Nat.le_of_ble_eq_true rfl) (fun _ => rfl) (fun cx hc => ?_)
  have hW1 := hW.1
  have hW2 := hW.2.1
  have hF : Eqo 42 17 σ σ := Eqo.rf
  refine R.bipush hc bp_m4 dX7_looks_0 ?_
  refine R.istn2 hc dX7_looks_2 (by decide) rfl ?_
  refine R.iconst hc ic_0 dX7_looks_3 ?_
  refine R.istn3 hc dX7_looks_4 (by decide) rfl ?_
  refine rl_down (P := fun p => R cx 0 0 n σ 5 [some (.ref 42), some (.int (nI q)), some (.int (cI (dft (fun p => fitB a (clS a nq) p q (a 2 p)) (a 2) p))), some (.int (nI p))] []) np ?_ (fun p hp ih => ?_) 0 (Nat.zero_le _)
  · refine R.iload_n (j := 3) (i := 3) hc rfl rfl dX7_looks_5 ?_
    refine R.aload_n (j := 0) (i := 0) hc rfl rfl dX7_looks_6 ?_
    refine R.get hc gf_X7_7_r dX7_looks_7 (hR.1) rfl ?_
    refine R.iconst hc ic_0 dX7_looks_10 ?_
    refine R.ialdV hc hR.g0 (by omega) (by decide) dX7_looks_11 (hN.1) ?_
    refine R.icmpN_ge (tgt := 55) hc dX7_looks_12 (by decide) (by omega) (by omega) (fun _ => ?_) (fun z => absurd (Nat.le_refl _) z)
    refine R.aload_n (j := 0) (i := 0) hc rfl rfl dX7_looks_55 ?_
    refine R.iload_n (j := 1) (i := 1) hc rfl rfl dX7_looks_56 ?_
    refine R.iload_n (j := 2) (i := 2) hc rfl rfl dX7_looks_57 ?_
    refine R.iconst hc ic_3 dX7_looks_58 ?_
    refine R.cVu hc m_X7_tells lk_X7_91 dX7_looks_59 (c_X7_tells l (d + 3) X n hR (k := 3) (by omega) (by omega) _) (hR.1) rfl rfl rfl (by omega) ⟨Nat.le_refl _, Nat.le_refl _⟩ (Nat.le_of_ble_eq_true rfl) (fun σ hX => ?_)
    exact R.vret hc rfl dX7_looks_62 ⟨rfl, rfl, hX⟩
  · rw [dft] at ih
    have hdl := dft_le (fun p => fitB a (clS a nq) p q (a 2 p)) (a 2) p
    obtain ⟨D, hD⟩ : ∃ z, z = dft (fun p => fitB a (clS a nq) p q (a 2 p)) (a 2) p := ⟨_, rfl⟩
    rw [← hD] at ih hdl ⊢
    obtain ⟨h0, h1, h2⟩ := hW.2.2.1 p hp
    refine R.iload_n (j := 3) (i := 3) hc rfl rfl dX7_looks_5 ?_
    refine R.aload_n (j := 0) (i := 0) hc rfl rfl dX7_looks_6 ?_
    refine R.get hc gf_X7_7_r dX7_looks_7 (hR.1) rfl ?_
    refine R.iconst hc ic_0 dX7_looks_10 ?_
    refine R.ialdV hc hR.g0 (by omega) (by decide) dX7_looks_11 (hN.1) ?_
    refine R.icmpN_ge (tgt := 55) hc dX7_looks_12 (by decide) (by omega) (by omega) (fun z => absurd z (by omega)) (fun _ => ?_)
    refine R.aload_n (j := 0) (i := 0) hc rfl rfl dX7_looks_15 ?_
    refine R.iload_n (j := 1) (i := 1) hc rfl rfl dX7_looks_16 ?_
    refine R.iload_n (j := 3) (i := 3) hc rfl rfl dX7_looks_17 ?_
    refine R.cVr hc m_X7_fits lk_X7_87 dX7_looks_18 (c_X7_fits l d X n hR hN hW (by omega) (by omega)) (hR.1) rfl rfl rfl (by omega) ⟨Nat.le_refl _, Nat.le_refl _⟩ (Nat.le_of_ble_eq_true rfl) ?_
    refine R.ifB_eq (tgt := 47) hc dX7_looks_21 (by decide) (fun z => ?_) (fun z => ?_)
    · rw [if_neg (by rw [z]; simp)] at ih
      refine R.iload_n (j := 2) (i := 2) hc rfl rfl dX7_looks_47 ?_
      refine R.istn2 hc dX7_looks_48 (by decide) rfl ?_
      refine R.iinc3 hc dX7_looks_49 (iiN1 _) (by decide) rfl ?_
      refine R.goto (tgt := 5) hc dX7_looks_52 (by decide) ?_
      exact ih
    · refine R.iload_n (j := 2) (i := 2) hc rfl rfl dX7_looks_24 ?_
      refine R.bipush hc bp_m4 dX7_looks_25 ?_
      refine R.icmp_eq (tgt := 43) hc dX7_looks_27 (by decide) (fun y => ?_) (fun y => ?_)
      · have y := (cI_n4 (by omega)).mp y
        rw [if_pos (by rw [z, y]; rfl)] at ih
        refine R.iload_n (j := 3) (i := 3) hc rfl rfl dX7_looks_43 ?_
        refine R.goto (tgt := 48) hc dX7_looks_44 (by decide) ?_
        refine R.istn2 hc dX7_looks_48 (by decide) rfl ?_
        refine R.iinc3 hc dX7_looks_49 (iiN1 _) (by decide) rfl ?_
        refine R.goto (tgt := 5) hc dX7_looks_52 (by decide) ?_
        exact ih
      · have y : D ≠ 0 := fun w => y ((cI_n4 (by omega)).mpr w)
        obtain ⟨D, rfl⟩ : ∃ i, D = i + 1 := ⟨D - 1, by omega⟩
        obtain ⟨k0, k1, k2⟩ := hW.2.2.1 D (by omega)
        simp only [cI] at ih ⊢
        rw [show D + 1 - 1 = D by omega] at ih
        refine R.aload_n (j := 0) (i := 0) hc rfl rfl dX7_looks_30 ?_
        refine R.iload_n (j := 3) (i := 3) hc rfl rfl dX7_looks_31 ?_
        refine R.cVr hc m_X7_deep lk_X7_78 dX7_looks_32 (n_X7_deep l (d + 2) X n hR hN hW (by omega)) (hR.1) rfl rfl rfl (by omega) ⟨Nat.le_refl _, Nat.le_refl _⟩ (Nat.le_of_ble_eq_true rfl) ?_
        refine R.aload_n (j := 0) (i := 0) hc rfl rfl dX7_looks_35 ?_
        refine R.iload_n (j := 2) (i := 2) hc rfl rfl dX7_looks_36 ?_
        refine R.cVr hc m_X7_deep lk_X7_78 dX7_looks_37 (n_X7_deep l (d + 2) X n hR hN hW (by omega)) (hR.1) rfl rfl rfl (by omega) ⟨Nat.le_refl _, Nat.le_refl _⟩ (Nat.le_of_ble_eq_true rfl) ?_
        refine R.icmpN_le (tgt := 47) hc dX7_looks_40 (by decide) (by omega) (by omega) (fun w => ?_) (fun w => ?_)
        · rw [if_neg (by simp [Nat.not_lt.mpr w])] at ih
          refine R.iload_n (j := 2) (i := 2) hc rfl rfl dX7_looks_47 ?_
          refine R.istn2 hc dX7_looks_48 (by decide) rfl ?_
          refine R.iinc3 hc dX7_looks_49 (iiN1 _) (by decide) rfl ?_
          refine R.goto (tgt := 5) hc dX7_looks_52 (by decide) ?_
          exact ih
        · rw [if_pos (by rw [z]; simp [Nat.not_le.mp w])] at ih
          refine R.iload_n (j := 3) (i := 3) hc rfl rfl dX7_looks_43 ?_
          refine R.goto (tgt := 48) hc dX7_looks_44 (by decide) ?_
          refine R.istn2 hc dX7_looks_48 (by decide) rfl ?_
          refine R.iinc3 hc dX7_looks_49 (iiN1 _) (by decide) rfl ?_
          refine R.goto (tgt := 5) hc dX7_looks_52 (by decide) ?_
          exact ih
set_option maxHeartbeats 4000000 in
set_option maxRecDepth 100000 in
theorem c_X7_goesBy (l : Launch) (d : Nat) (X : Nat × (Nat → Int32)) (n : Nat) {σ : Wd} {A : Nat → Nat → Int32} {L : Nat → Nat → Int64} {I : Nat → Int32} (hR : RW σ A L I) {a : SA} {np nq hr dr : Nat} (hN : NowR (A 0) a np nq hr dr) (hW : WF a np nq) (hh : hr < 99999) : CN l yX7_goesBy cX7_goesBy 2 none ((d + 5)) X n [.ref 42] σ (fun v σ' => v = none ∧ RN σ σ' A L I (hourS a np nq hr) np nq (hr + 1) dr) := by
  refine CN.of (by decide) [some (.ref 42), none] (fun _ => Nat.le_of_ble_eq_true rfl) (fun _ => rfl) (fun cx hc => ?_)
  have hW1 := hW.1
  have hW2 := hW.2.1
  have hF : Eqo 42 17 σ σ := Eqo.rf
  obtain ⟨σ0, hσ0⟩ : ∃ z, z = σ := ⟨_, rfl⟩
  obtain ⟨A0, hA0⟩ : ∃ z, z = A := ⟨_, rfl⟩
  rw [← hσ0, ← hA0] at hc
  have hF : Eqo 42 17 σ0 σ := by rw [hσ0]; exact Eqo.rf
  have hFr : ∀ k, 1 ≤ k → A k = A0 k := fun k _ => by rw [hA0]
  refine R.iconst hc ic_0 dX7_goesBy_0 ?_
  refine R.istn1 hc dX7_goesBy_1 (by decide) rfl ?_
  refine rl_down (P := fun q => ∀ (σ : Wd) (A : Nat → Nat → Int32), RW σ A L I → NowR (A 0) (lc a np nq hr q) np nq hr dr → (∀ k, 1 ≤ k → A k = A0 k) → Eqo 42 17 σ0 σ → R cx 0 0 n σ 2 [some (.ref 42), some (.int (nI q))] []) nq (fun σ A hR hN hFr hF => ?_) (fun q hq ih σ A hR hN hFr hF => ?_) 0 (Nat.zero_le _) σ A hR hN hFr hF
  rotate_left
  · rw [lc] at ih
    have hWb := WF_lc (hr := hr) hW q
    obtain ⟨b, hb⟩ : ∃ z, z = lc a np nq hr q := ⟨_, rfl⟩
    rw [← hb] at ih hWb hN
    obtain ⟨g0, g1, g2, g3⟩ := hWb.2.2.2.1 q hq
    have g1b : b (3 + 1) q < 20000 := g1
    refine R.iload_n (j := 1) (i := 1) hc rfl rfl dX7_goesBy_2 ?_
    refine R.aload_n (j := 0) (i := 0) hc rfl rfl dX7_goesBy_3 ?_
    refine R.get hc gf_X7_7_r dX7_goesBy_4 (hR.1) rfl ?_
    refine R.iconst hc ic_1 dX7_goesBy_7 ?_
    refine R.ialdV hc hR.g0 (by omega) (by decide) dX7_goesBy_8 (hN.2.1) ?_
    refine R.icmpN_ge (tgt := 48) hc dX7_goesBy_9 (by decide) (by omega) (by omega) (fun z => absurd z (by omega)) (fun _ => ?_)
    refine R.aload_n (j := 0) (i := 0) hc rfl rfl dX7_goesBy_12 ?_
    refine R.iload_n (j := 1) (i := 1) hc rfl rfl dX7_goesBy_13 ?_
    refine R.cVr hc m_X7_claimed lk_X7_70 dX7_goesBy_14 (n_X7_claimed l (d + 3) X n hR hN hWb (by omega)) (hR.1) rfl rfl rfl (by omega) ⟨Nat.le_refl _, Nat.le_refl _⟩ (Nat.le_of_ble_eq_true rfl) ?_
    refine R.bipush hc bp_m4 dX7_goesBy_17 ?_
    refine R.icmp_ne (tgt := 42) hc dX7_goesBy_19 (by decide) (fun z => ?_) (fun z => ?_)
    · rw [if_neg (fun y => z ((cI_n4 (by omega)).mpr y.1))] at ih
      refine R.iinc1 hc dX7_goesBy_42 (iiN1 _) (by decide) rfl ?_
      refine R.goto (tgt := 2) hc dX7_goesBy_45 (by decide) ?_
      exact ih σ A hR hN hFr hF
    · have z := (cI_n4 (by omega)).mp z
      refine R.aload_n (j := 0) (i := 0) hc rfl rfl dX7_goesBy_22 ?_
      refine R.iload_n (j := 1) (i := 1) hc rfl rfl dX7_goesBy_23 ?_
      refine R.iconst hc ic_1 dX7_goesBy_24 ?_
      refine R.cVr hc m_X7_ofPerson lk_X7_67 dX7_goesBy_25 (n_X7_ofPerson l (d + 4) X n hR hN hWb (by omega) (by omega)) (hR.1) rfl rfl rfl (by omega) ⟨Nat.le_refl _, Nat.le_refl _⟩ (Nat.le_of_ble_eq_true rfl) ?_
      refine R.aload_n (j := 0) (i := 0) hc rfl rfl dX7_goesBy_28 ?_
      refine R.get hc gf_X7_7_r dX7_goesBy_29 (hR.1) rfl ?_
      refine R.iconst hc ic_2 dX7_goesBy_32 ?_
      refine R.ialdV hc hR.g0 (by omega) (by decide) dX7_goesBy_33 (hN.2.2.1) ?_
      refine R.icmpN_gt (tgt := 42) hc dX7_goesBy_34 (by decide) (by omega) (by omega) (fun y => ?_) (fun y => ?_)
      · rw [if_neg (fun w => absurd w.2 (Nat.not_le.mpr y))] at ih
        refine R.iinc1 hc dX7_goesBy_42 (iiN1 _) (by decide) rfl ?_
        refine R.goto (tgt := 2) hc dX7_goesBy_45 (by decide) ?_
        exact ih σ A hR hN hFr hF
      · rw [if_pos ⟨z, Nat.not_lt.mp y⟩] at ih
        refine R.aload_n (j := 0) (i := 0) hc rfl rfl dX7_goesBy_37 ?_
        refine R.iload_n (j := 1) (i := 1) hc rfl rfl dX7_goesBy_38 ?_
        refine R.cVu hc m_X7_looks lk_X7_95 dX7_goesBy_39 (c_X7_looks l d X n hR hN hWb (by omega)) (hR.1) rfl rfl rfl (by omega) ⟨Nat.le_refl _, Nat.le_refl _⟩ (Nat.le_of_ble_eq_true rfl) (fun σ hX => ?_)
        obtain ⟨hR, hE⟩ := hX
        have hF := hF.tr hE
        have hN := hN.w6 hW1 (q := q) (x := dft (fun p => fitB b (clS b nq) p q (b 2 p)) (b 2) np)
        refine R.iinc1 hc dX7_goesBy_42 (iiN1 _) (by decide) rfl ?_
        refine R.goto (tgt := 2) hc dX7_goesBy_45 (by decide) ?_
        exact ih σ _ hR (by rw [A2_s]; exact hN) (fun k hk => by rw [A2_n (by omega)]; exact hFr k hk) hF
  have hWb := WF_lc (hr := hr) hW nq
  rw [hourS, lessen_eq] at hc
  obtain ⟨b, hb⟩ : ∃ z, z = lc a np nq hr nq := ⟨_, rfl⟩
  rw [← hb] at hc hWb hN
  obtain ⟨fN, hfN⟩ : ∃ z, z = A 0 := ⟨_, rfl⟩
  refine R.iload_n (j := 1) (i := 1) hc rfl rfl dX7_goesBy_2 ?_
  refine R.aload_n (j := 0) (i := 0) hc rfl rfl dX7_goesBy_3 ?_
  refine R.get hc gf_X7_7_r dX7_goesBy_4 (hR.1) rfl ?_
  refine R.iconst hc ic_1 dX7_goesBy_7 ?_
  refine R.ialdV hc hR.g0 (by omega) (by decide) dX7_goesBy_8 (hN.2.1) ?_
  refine R.icmpN_ge (tgt := 48) hc dX7_goesBy_9 (by decide) (by omega) (by omega) (fun _ => ?_) (fun z => absurd (Nat.le_refl _) z)
  refine R.iconst hc ic_0 dX7_goesBy_48 ?_
  refine R.istn1 hc dX7_goesBy_49 (by decide) rfl ?_
  refine rl_down (P := fun p => ∀ (σ : Wd) (A : Nat → Nat → Int32), RW σ A L I → NowR (A 0) b np nq hr dr → (∀ j, j < p → A 1 j = nI (less b np hr j)) → (∀ k, 2 ≤ k → A k = A0 k) → Eqo 42 17 σ0 σ → R cx 0 0 n σ 50 [some (.ref 42), some (.int (nI p))] []) np (fun σ A hR hN hL hFr hF => ?_) (fun p hp ih σ A hR hN hL hFr hF => ?_) 0 (Nat.zero_le _) σ A hR hN (fun j hj => absurd hj (by omega)) (fun k hk => hFr k (by omega)) hF
  rotate_left
  · refine R.iload_n (j := 1) (i := 1) hc rfl rfl dX7_goesBy_50 ?_
    refine R.aload_n (j := 0) (i := 0) hc rfl rfl dX7_goesBy_51 ?_
    refine R.get hc gf_X7_7_r dX7_goesBy_52 (hR.1) rfl ?_
    refine R.iconst hc ic_0 dX7_goesBy_55 ?_
    refine R.ialdV hc hR.g0 (by omega) (by decide) dX7_goesBy_56 (hN.1) ?_
    refine R.icmpN_ge (tgt := 77) hc dX7_goesBy_57 (by decide) (by omega) (by omega) (fun z => absurd z (by omega)) (fun _ => ?_)
    refine R.aload_n (j := 0) (i := 0) hc rfl rfl dX7_goesBy_60 ?_
    refine R.get hc gf_X7_13_r dX7_goesBy_61 (hR.1) rfl ?_
    refine R.iload_n (j := 1) (i := 1) hc rfl rfl dX7_goesBy_64 ?_
    refine R.aload_n (j := 0) (i := 0) hc rfl rfl dX7_goesBy_65 ?_
    refine R.iload_n (j := 1) (i := 1) hc rfl rfl dX7_goesBy_66 ?_
    refine R.cVr hc m_X7_less lk_X7_99 dX7_goesBy_67 (c_X7_less l (d + 1) X n hR hN hWb (by omega) (by omega)) (hR.1) rfl rfl rfl (by omega) ⟨Nat.le_refl _, Nat.le_refl _⟩ (Nat.le_of_ble_eq_true rfl) ?_
    refine R.iastG hc dX7_goesBy_70 hR.g1 (by omega) (by decide) (fun σ hX hE => ?_)
    have hR := hR.w1 hX hE
    have hF := hF.tr (hE.wid (by omega))
    refine R.iinc1 hc dX7_goesBy_71 (iiN1 _) (by decide) rfl ?_
    refine R.goto (tgt := 50) hc dX7_goesBy_74 (by decide) ?_
    exact ih σ _ hR (by rw [A2_n (by omega)]; exact hN) (fun j hj => by
      rw [A2_s]
      by_cases e : j = p
      · rw [e, pk_us]
      · rw [pk_un e]; exact hL j (by omega)) (fun k hk => by rw [A2_n (by omega)]; exact hFr k hk) hF
  refine R.iload_n (j := 1) (i := 1) hc rfl rfl dX7_goesBy_50 ?_
  refine R.aload_n (j := 0) (i := 0) hc rfl rfl dX7_goesBy_51 ?_
  refine R.get hc gf_X7_7_r dX7_goesBy_52 (hR.1) rfl ?_
  refine R.iconst hc ic_0 dX7_goesBy_55 ?_
  refine R.ialdV hc hR.g0 (by omega) (by decide) dX7_goesBy_56 (hN.1) ?_
  refine R.icmpN_ge (tgt := 77) hc dX7_goesBy_57 (by decide) (by omega) (by omega) (fun _ => ?_) (fun z => absurd (Nat.le_refl _) z)
  refine R.iconst hc ic_0 dX7_goesBy_77 ?_
  refine R.istn1 hc dX7_goesBy_78 (by decide) rfl ?_
  refine rl_down (P := fun p => ∀ (σ : Wd) (A : Nat → Nat → Int32), RW σ A L I → NowR (A 0) (lessenK b np hr p) np nq hr dr → (∀ j, j < np → A 1 j = nI (less b np hr j)) → (∀ k, 2 ≤ k → A k = A0 k) → Eqo 42 17 σ0 σ → R cx 0 0 n σ 79 [some (.ref 42), some (.int (nI p))] []) np (fun σ A hR hN hL hFr hF => ?_) (fun p hp ih σ A hR hN hL hFr hF => ?_) 0 (Nat.zero_le _) σ A hR (by rw [lessenK_0]; exact hN) hL hFr hF
  · refine R.iload_n (j := 1) (i := 1) hc rfl rfl dX7_goesBy_79 ?_
    refine R.aload_n (j := 0) (i := 0) hc rfl rfl dX7_goesBy_80 ?_
    refine R.get hc gf_X7_7_r dX7_goesBy_81 (hR.1) rfl ?_
    refine R.iconst hc ic_0 dX7_goesBy_84 ?_
    refine R.ialdV hc hR.g0 (by omega) (by decide) dX7_goesBy_85 (hN.1) ?_
    refine R.icmpN_ge (tgt := 112) hc dX7_goesBy_86 (by decide) (by omega) (by omega) (fun _ => ?_) (fun z => absurd (Nat.le_refl _) z)
    refine R.aload_n (j := 0) (i := 0) hc rfl rfl dX7_goesBy_112 ?_
    refine R.get hc gf_X7_7_r dX7_goesBy_113 (hR.1) rfl ?_
    refine R.iconst hc ic_2 dX7_goesBy_116 ?_
    refine R.dup2 hc rfl rfl dX7_goesBy_117 ?_
    refine R.ialdV hc hR.g0 (by omega) (by decide) dX7_goesBy_118 (hN.2.2.1) ?_
    refine R.iconst hc ic_1 dX7_goesBy_119 ?_
    first | refine R.iaddN hc dX7_goesBy_120 ?_ | refine R.iadd hc dX7_goesBy_120 ?_
    refine R.iastG hc dX7_goesBy_121 hR.g0 (by omega) (by decide) (fun σ hX hE => ?_)
    have hR := hR.w0 hX hE
    have hF := hF.tr (hE.wid (by omega))
    exact R.vret hc rfl dX7_goesBy_122 ⟨rfl, rfl, _, hR, by rw [A2_s]; exact hN.whr (hr + 1), fun k hk => by rw [A2_n (by omega)]; exact hFr k hk, hF⟩
  · have hWk := WF_lessenK (hr := hr) (p := p) hWb
    have hls := less_le (a := b) (np := np) (hr := hr) (p := p)
    obtain ⟨h0, h1, h2⟩ := hWb.2.2.1 p hp
    have e2 : lessenK b np hr p 2 p = b 2 p := by simp [lessenK]
    refine R.iload_n (j := 1) (i := 1) hc rfl rfl dX7_goesBy_79 ?_
    refine R.aload_n (j := 0) (i := 0) hc rfl rfl dX7_goesBy_80 ?_
    refine R.get hc gf_X7_7_r dX7_goesBy_81 (hR.1) rfl ?_
    refine R.iconst hc ic_0 dX7_goesBy_84 ?_
    refine R.ialdV hc hR.g0 (by omega) (by decide) dX7_goesBy_85 (hN.1) ?_
    refine R.icmpN_ge (tgt := 112) hc dX7_goesBy_86 (by decide) (by omega) (by omega) (fun z => absurd z (by omega)) (fun _ => ?_)
    refine R.aload_n (j := 0) (i := 0) hc rfl rfl dX7_goesBy_89 ?_
    refine R.iload_n (j := 1) (i := 1) hc rfl rfl dX7_goesBy_90 ?_
    refine R.aload_n (j := 0) (i := 0) hc rfl rfl dX7_goesBy_91 ?_
    refine R.iload_n (j := 1) (i := 1) hc rfl rfl dX7_goesBy_92 ?_
    refine R.cVr hc m_X7_deep lk_X7_78 dX7_goesBy_93 (n_X7_deep l (d + 3) X n hR hN hWk (by omega)) (hR.1) rfl rfl rfl (by omega) ⟨Nat.le_refl _, Nat.le_refl _⟩ (Nat.le_of_ble_eq_true rfl) ?_
    refine R.aload_n (j := 0) (i := 0) hc rfl rfl dX7_goesBy_96 ?_
    refine R.get hc gf_X7_13_r dX7_goesBy_97 (hR.1) rfl ?_
    refine R.iload_n (j := 1) (i := 1) hc rfl rfl dX7_goesBy_100 ?_
    refine R.ialdV hc hR.g1 (by omega) (by decide) dX7_goesBy_101 (hL p hp) ?_
    refine R.isub hc dX7_goesBy_102 ?_
    refine R.cVu hc m_X7_deeps lk_X7_102 dX7_goesBy_103 (c_X7_deeps l (d + 4) X n hR (by omega) _) (hR.1) rfl rfl rfl (by omega) ⟨Nat.le_refl _, Nat.le_refl _⟩ (Nat.le_of_ble_eq_true rfl) (fun σ hX => ?_)
    obtain ⟨hR, hE⟩ := hX
    rw [e2, clI_s h2 (by omega)] at hR
    have hF := hF.tr hE
    refine R.iinc1 hc dX7_goesBy_106 (iiN1 _) (by decide) rfl ?_
    refine R.goto (tgt := 79) hc dX7_goesBy_109 (by decide) ?_
    exact ih σ _ hR (by rw [A2_s, ← lessenK_s]; exact hN.wp (by omega) (by omega)) (fun j hj => by rw [A2_n (by omega)]; exact hL j hj) (fun k hk => by rw [A2_n (by omega)]; exact hFr k hk) hF
set_option maxHeartbeats 4000000 in
set_option maxRecDepth 100000 in
theorem c_X7_goesOn (l : Launch) (d : Nat) (X : Nat × (Nat → Int32)) (n : Nat) {σ : Wd} {A : Nat → Nat → Int32} {L : Nat → Nat → Int64} {I : Nat → Int32} (hR : RW σ A L I) {a : SA} {np nq hr dr : Nat} (hN : NowR (A 0) a np nq hr dr) (hW : WF a np nq) {w : Nat} (hh : hr ≤ 9999) (hw : w ≤ 1000) : CN l yX7_goesOn cX7_goesOn 3 none ((d + 6)) X n [.ref 42, .int (nI w)] σ (fun v σ' => v = none ∧ RN σ σ' A L I (hoursN a np nq hr w) np nq (hr + w) dr) := by
  refine CN.of (by decide) [some (.ref 42), some (.int (nI w)), none] (fun _ => Nat.le_of_ble_eq_true rfl) (fun _ => rfl) (fun cx hc => ?_)
  have hW1 := hW.1
  have hW2 := hW.2.1
  have hF : Eqo 42 17 σ σ := Eqo.rf
  obtain ⟨σ0, hσ0⟩ : ∃ z, z = σ := ⟨_, rfl⟩
  obtain ⟨A0, hA0⟩ : ∃ z, z = A := ⟨_, rfl⟩
  rw [← hσ0, ← hA0] at hc
  have hF : Eqo 42 17 σ0 σ := by rw [hσ0]; exact Eqo.rf
  have hFr : ∀ k, 2 ≤ k → A k = A0 k := fun k _ => by rw [hA0]
  refine R.iconst hc ic_0 dX7_goesOn_0 ?_
  refine R.istn2 hc dX7_goesOn_1 (by decide) rfl ?_
  refine rl_down (P := fun k => ∀ (σ : Wd) (A : Nat → Nat → Int32), RW σ A L I → NowR (A 0) (hoursN a np nq hr k) np nq (hr + k) dr → (∀ k, 2 ≤ k → A k = A0 k) → Eqo 42 17 σ0 σ → R cx 0 0 n σ 2 [some (.ref 42), some (.int (nI w)), some (.int (nI k))] []) w (fun σ A hR hN hFr hF => ?_) (fun k hk ih σ A hR hN hFr hF => ?_) 0 (Nat.zero_le _) σ A hR hN hFr hF
  · refine R.iload_n (j := 2) (i := 2) hc rfl rfl dX7_goesOn_2 ?_
    refine R.iload_n (j := 1) (i := 1) hc rfl rfl dX7_goesOn_3 ?_
    refine R.icmpN_ge (tgt := 17) hc dX7_goesOn_4 (by decide) (by omega) (by omega) (fun _ => ?_) (fun z => absurd (Nat.le_refl _) z)
    exact R.vret hc rfl dX7_goesOn_17 ⟨rfl, rfl, _, hR, hN, hFr, hF⟩
  · refine R.iload_n (j := 2) (i := 2) hc rfl rfl dX7_goesOn_2 ?_
    refine R.iload_n (j := 1) (i := 1) hc rfl rfl dX7_goesOn_3 ?_
    refine R.icmpN_ge (tgt := 17) hc dX7_goesOn_4 (by decide) (by omega) (by omega) (fun z => absurd z (by omega)) (fun _ => ?_)
    refine R.aload_n (j := 0) (i := 0) hc rfl rfl dX7_goesOn_7 ?_
    refine R.cVu hc m_X7_goesBy lk_X7_106 dX7_goesOn_8 (c_X7_goesBy l d X n hR hN (WF_hoursN hW k) (by omega)) (hR.1) rfl rfl rfl (by omega) ⟨Nat.le_refl _, Nat.le_refl _⟩ (Nat.le_of_ble_eq_true rfl) (fun σ hX => ?_)
    obtain ⟨A, hR, hN, hA, hE⟩ := hX
    have hF := hF.tr hE
    have hFr := fun k h => (hA k h).trans (hFr k h)
    refine R.iinc2 hc dX7_goesOn_11 (iiN1 _) (by decide) rfl ?_
    refine R.goto (tgt := 2) hc dX7_goesOn_14 (by decide) ?_
    exact ih σ A hR hN hFr hF
theorem pop_dec : ∀ T, T < 128 → 0 < T → pop T = pop (T &&& (T - 1)) + 1 := by decide +kernel
set_option maxHeartbeats 4000000 in
set_option maxRecDepth 100000 in
theorem c_X7_many (l : Launch) (d : Nat) (X : Nat × (Nat → Int32)) (n : Nat) {σ : Wd} {S : Nat} (hS : S < 128) : CN l yX7_many cX7_many 3 (some .int) (d) X n [.int (nI S)] σ (fun v σ' => v = some (.int (nI (pop S))) ∧ σ' = σ) := by
  refine CN.of (by decide) [some (.int (nI S)), none, none] (fun _ => Nat.le_of_ble_eq_true rfl) (fun _ => rfl) (fun cx hc => ?_)
  refine R.iconst hc ic_0 dX7_many_0 ?_
  refine R.istn1 hc dX7_many_1 (by decide) rfl ?_
  refine R.iload_n (j := 0) (i := 0) hc rfl rfl dX7_many_2 ?_
  refine R.istn2 hc dX7_many_3 (by decide) rfl ?_
  have key : ∀ B T k, T ≤ B → T < 128 → k + pop T = pop S → R cx 0 0 n σ 4 [some (.int (nI S)), some (.int (nI k)), some (.int (nI T))] [] := by
    intro B
    induction B with
    | zero =>
      intro T k hT hT2 e
      have : T = 0 := by omega
      subst this
      have e : k = pop S := e
      refine R.iload_n (j := 2) (i := 2) hc rfl rfl dX7_many_4 ?_
      refine R.ifN_eq (tgt := 20) hc dX7_many_5 (by decide) (by omega) (fun _ => ?_) (fun z => absurd rfl z)
      refine R.iload_n (j := 1) (i := 1) hc rfl rfl dX7_many_20 ?_
      exact R.iret hc rfl dX7_many_21 ⟨rfl, by rw [e], rfl⟩
    | succ B ih =>
      intro T k hT hT2 e
      refine R.iload_n (j := 2) (i := 2) hc rfl rfl dX7_many_4 ?_
      refine R.ifN_eq (tgt := 20) hc dX7_many_5 (by decide) (by omega) (fun z => ?_) (fun z => ?_)
      · subst z
        have e : k = pop S := e
        refine R.iload_n (j := 1) (i := 1) hc rfl rfl dX7_many_20 ?_
        exact R.iret hc rfl dX7_many_21 ⟨rfl, by rw [e], rfl⟩
      · have h1 := pop_dec T hT2 (by omega)
        have h2 : T &&& (T - 1) ≤ T - 1 := Nat.and_le_right
        refine R.iinc1 hc dX7_many_8 (iiN1 _) (by decide) rfl ?_
        refine R.iload_n (j := 2) (i := 2) hc rfl rfl dX7_many_11 ?_
        refine R.iload_n (j := 2) (i := 2) hc rfl rfl dX7_many_12 ?_
        refine R.iconst hc ic_1 dX7_many_13 ?_
        first | refine R.isubN hc (by omega) dX7_many_14 ?_ | refine R.isub hc dX7_many_14 ?_
        first | refine R.iandN hc dX7_many_15 ?_ | refine R.iand hc dX7_many_15 ?_
        refine R.istn2 hc dX7_many_16 (by decide) rfl ?_
        refine R.goto (tgt := 4) hc dX7_many_17 (by decide) ?_
        exact ih (T &&& (T - 1)) (k + 1) (by omega) (by omega) (by omega)
  exact key S S 0 (Nat.le_refl _) hS (Nat.zero_add _)
set_option maxHeartbeats 4000000 in
set_option maxRecDepth 100000 in
theorem c_X7_servedNow (l : Launch) (d : Nat) (X : Nat × (Nat → Int32)) (n : Nat) {σ : Wd} {A : Nat → Nat → Int32} {L : Nat → Nat → Int64} {I : Nat → Int32} (hR : RW σ A L I) {a : SA} {np nq hr dr : Nat} (hN : NowR (A 0) a np nq hr dr) (hW : WF a np nq) : CN l yX7_servedNow cX7_servedNow 3 (some .int) ((d + 2)) X n [.ref 42] σ (fun v σ' => v = some (.int (nI (bsN (hasC a) nq))) ∧ σ' = σ) := by
  refine CN.of (by decide) [some (.ref 42), none, none] (fun _ => Nat.le_of_ble_eq_true rfl) (fun _ => rfl) (fun cx hc => ?_)
  have hW1 := hW.1
  have hW2 := hW.2.1
  have hF : Eqo 42 17 σ σ := Eqo.rf
  refine R.iconst hc ic_0 dX7_servedNow_0 ?_
  refine R.istn1 hc dX7_servedNow_1 (by decide) rfl ?_
  refine R.iconst hc ic_0 dX7_servedNow_2 ?_
  refine R.istn2 hc dX7_servedNow_3 (by decide) rfl ?_
  refine rl_down (P := fun q => R cx 0 0 n σ 4 [some (.ref 42), some (.int (nI (bsN (hasC a) q))), some (.int (nI q))] []) nq ?_ (fun q hq ih => ?_) 0 (Nat.zero_le _)
  · refine R.iload_n (j := 2) (i := 2) hc rfl rfl dX7_servedNow_4 ?_
    refine R.aload_n (j := 0) (i := 0) hc rfl rfl dX7_servedNow_5 ?_
    refine R.get hc gf_X7_7_r dX7_servedNow_6 (hR.1) rfl ?_
    refine R.iconst hc ic_1 dX7_servedNow_9 ?_
    refine R.ialdV hc hR.g0 (by omega) (by decide) dX7_servedNow_10 (hN.2.1) ?_
    refine R.icmpN_ge (tgt := 40) hc dX7_servedNow_11 (by decide) (by omega) (by omega) (fun _ => ?_) (fun z => absurd (Nat.le_refl _) z)
    refine R.iload_n (j := 1) (i := 1) hc rfl rfl dX7_servedNow_40 ?_
    exact R.iret hc rfl dX7_servedNow_41 ⟨rfl, rfl, rfl⟩
  · rw [bsN] at ih
    obtain ⟨g0, g1, g2, g3⟩ := hW.2.2.2.1 q hq
    refine R.iload_n (j := 2) (i := 2) hc rfl rfl dX7_servedNow_4 ?_
    refine R.aload_n (j := 0) (i := 0) hc rfl rfl dX7_servedNow_5 ?_
    refine R.get hc gf_X7_7_r dX7_servedNow_6 (hR.1) rfl ?_
    refine R.iconst hc ic_1 dX7_servedNow_9 ?_
    refine R.ialdV hc hR.g0 (by omega) (by decide) dX7_servedNow_10 (hN.2.1) ?_
    refine R.icmpN_ge (tgt := 40) hc dX7_servedNow_11 (by decide) (by omega) (by omega) (fun z => absurd z (by omega)) (fun _ => ?_)
    refine R.iload_n (j := 1) (i := 1) hc rfl rfl dX7_servedNow_14 ?_
    refine R.aload_n (j := 0) (i := 0) hc rfl rfl dX7_servedNow_15 ?_
    refine R.iload_n (j := 2) (i := 2) hc rfl rfl dX7_servedNow_16 ?_
    refine R.cVr hc m_X7_claimed lk_X7_70 dX7_servedNow_17 (n_X7_claimed l d X n hR hN hW (by omega)) (hR.1) rfl rfl rfl (by omega) ⟨Nat.le_refl _, Nat.le_refl _⟩ (Nat.le_of_ble_eq_true rfl) ?_
    refine R.bipush hc bp_m4 dX7_servedNow_20 ?_
    refine R.icmp_ne (tgt := 29) hc dX7_servedNow_22 (by decide) (fun z => ?_) (fun z => ?_)
    · rw [if_pos (show hasC a q = true by simp [hasC]; exact fun y => z ((cI_n4 (by omega)).mpr y))] at ih
      refine R.iconst hc ic_1 dX7_servedNow_29 ?_
      refine R.iload_n (j := 2) (i := 2) hc rfl rfl dX7_servedNow_30 ?_
      first | refine R.shl1N hc (by omega) dX7_servedNow_31 ?_ | refine R.ishl hc dX7_servedNow_31 ?_
      first | refine R.iorN hc dX7_servedNow_32 ?_ | refine R.ior hc dX7_servedNow_32 ?_
      refine R.istn1 hc dX7_servedNow_33 (by decide) rfl ?_
      refine R.iinc2 hc dX7_servedNow_34 (iiN1 _) (by decide) rfl ?_
      refine R.goto (tgt := 4) hc dX7_servedNow_37 (by decide) ?_
      exact ih
    · rw [if_neg (show ¬ hasC a q = true by simp [hasC]; exact (cI_n4 (by omega)).mp z)] at ih
      refine R.iconst hc ic_0 dX7_servedNow_25 ?_
      refine R.goto (tgt := 32) hc dX7_servedNow_26 (by decide) ?_
      first | refine R.iorN hc dX7_servedNow_32 ?_ | refine R.ior hc dX7_servedNow_32 ?_
      refine R.istn1 hc dX7_servedNow_33 (by decide) rfl ?_
      refine R.iinc2 hc dX7_servedNow_34 (iiN1 _) (by decide) rfl ?_
      refine R.goto (tgt := 4) hc dX7_servedNow_37 (by decide) ?_
      exact ih
set_option maxHeartbeats 4000000 in
set_option maxRecDepth 100000 in
theorem c_X7_dryOnes (l : Launch) (d : Nat) (X : Nat × (Nat → Int32)) (n : Nat) {σ : Wd} {A : Nat → Nat → Int32} {L : Nat → Nat → Int64} {I : Nat → Int32} (hR : RW σ A L I) {a : SA} {np nq hr dr : Nat} (hN : NowR (A 0) a np nq hr dr) (hW : WF a np nq) : CN l yX7_dryOnes cX7_dryOnes 3 (some .int) ((d + 3)) X n [.ref 42] σ (fun v σ' => v = some (.int (nI (bsN (dryB a) np))) ∧ σ' = σ) := by
  refine CN.of (by decide) [some (.ref 42), none, none] (fun _ => Nat.le_of_ble_eq_true rfl) (fun _ => rfl) (fun cx hc => ?_)
  have hW1 := hW.1
  have hW2 := hW.2.1
  have hF : Eqo 42 17 σ σ := Eqo.rf
  refine R.iconst hc ic_0 dX7_dryOnes_0 ?_
  refine R.istn1 hc dX7_dryOnes_1 (by decide) rfl ?_
  refine R.iconst hc ic_0 dX7_dryOnes_2 ?_
  refine R.istn2 hc dX7_dryOnes_3 (by decide) rfl ?_
  refine rl_down (P := fun q => R cx 0 0 n σ 4 [some (.ref 42), some (.int (nI (bsN (dryB a) q))), some (.int (nI q))] []) np ?_ (fun q hq ih => ?_) 0 (Nat.zero_le _)
  · refine R.iload_n (j := 2) (i := 2) hc rfl rfl dX7_dryOnes_4 ?_
    refine R.aload_n (j := 0) (i := 0) hc rfl rfl dX7_dryOnes_5 ?_
    refine R.get hc gf_X7_7_r dX7_dryOnes_6 (hR.1) rfl ?_
    refine R.iconst hc ic_0 dX7_dryOnes_9 ?_
    refine R.ialdV hc hR.g0 (by omega) (by decide) dX7_dryOnes_10 (hN.1) ?_
    refine R.icmpN_ge (tgt := 38) hc dX7_dryOnes_11 (by decide) (by omega) (by omega) (fun _ => ?_) (fun z => absurd (Nat.le_refl _) z)
    refine R.iload_n (j := 1) (i := 1) hc rfl rfl dX7_dryOnes_38 ?_
    exact R.iret hc rfl dX7_dryOnes_39 ⟨rfl, rfl, rfl⟩
  · rw [bsN] at ih
    refine R.iload_n (j := 2) (i := 2) hc rfl rfl dX7_dryOnes_4 ?_
    refine R.aload_n (j := 0) (i := 0) hc rfl rfl dX7_dryOnes_5 ?_
    refine R.get hc gf_X7_7_r dX7_dryOnes_6 (hR.1) rfl ?_
    refine R.iconst hc ic_0 dX7_dryOnes_9 ?_
    refine R.ialdV hc hR.g0 (by omega) (by decide) dX7_dryOnes_10 (hN.1) ?_
    refine R.icmpN_ge (tgt := 38) hc dX7_dryOnes_11 (by decide) (by omega) (by omega) (fun z => absurd z (by omega)) (fun _ => ?_)
    refine R.iload_n (j := 1) (i := 1) hc rfl rfl dX7_dryOnes_14 ?_
    refine R.aload_n (j := 0) (i := 0) hc rfl rfl dX7_dryOnes_15 ?_
    refine R.iload_n (j := 2) (i := 2) hc rfl rfl dX7_dryOnes_16 ?_
    refine R.cVr hc m_X7_isDry lk_X7_81 dX7_dryOnes_17 (c_X7_isDry l d X n hR hN hW _) (hR.1) rfl rfl rfl (by omega) ⟨Nat.le_refl _, Nat.le_refl _⟩ (Nat.le_of_ble_eq_true rfl) ?_
    refine R.ifB_eq (tgt := 29) hc dX7_dryOnes_20 (by decide) (fun z => ?_) (fun z => ?_)
    · have z : ¬ (q < np ∧ a 2 q = 0) := by rw [dryI_n (by omega) hW1] at z; exact of_decide_eq_false z
      rw [if_neg (show ¬ dryB a q = true by simp [dryB]; exact fun y => z ⟨hq, y⟩)] at ih
      refine R.iconst hc ic_0 dX7_dryOnes_29 ?_
      first | refine R.iorN hc dX7_dryOnes_30 ?_ | refine R.ior hc dX7_dryOnes_30 ?_
      refine R.istn1 hc dX7_dryOnes_31 (by decide) rfl ?_
      refine R.iinc2 hc dX7_dryOnes_32 (iiN1 _) (by decide) rfl ?_
      refine R.goto (tgt := 4) hc dX7_dryOnes_35 (by decide) ?_
      exact ih
    · have z : q < np ∧ a 2 q = 0 := by rw [dryI_n (by omega) hW1] at z; exact of_decide_eq_true z
      rw [if_pos (show dryB a q = true by simp [dryB, z.2])] at ih
      refine R.iconst hc ic_1 dX7_dryOnes_23 ?_
      refine R.iload_n (j := 2) (i := 2) hc rfl rfl dX7_dryOnes_24 ?_
      first | refine R.shl1N hc (by omega) dX7_dryOnes_25 ?_ | refine R.ishl hc dX7_dryOnes_25 ?_
      refine R.goto (tgt := 30) hc dX7_dryOnes_26 (by decide) ?_
      first | refine R.iorN hc dX7_dryOnes_30 ?_ | refine R.ior hc dX7_dryOnes_30 ?_
      refine R.istn1 hc dX7_dryOnes_31 (by decide) rfl ?_
      refine R.iinc2 hc dX7_dryOnes_32 (iiN1 _) (by decide) rfl ?_
      refine R.goto (tgt := 4) hc dX7_dryOnes_35 (by decide) ?_
      exact ih
set_option maxHeartbeats 4000000 in
set_option maxRecDepth 100000 in
theorem c_X7_deepAll (l : Launch) (d : Nat) (X : Nat × (Nat → Int32)) (n : Nat) {σ : Wd} {A : Nat → Nat → Int32} {L : Nat → Nat → Int64} {I : Nat → Int32} (hR : RW σ A L I) {a : SA} {np nq hr dr : Nat} (hN : NowR (A 0) a np nq hr dr) (hW : WF a np nq) : CN l yX7_deepAll cX7_deepAll 3 (some .int) ((d + 2)) X n [.ref 42] σ (fun v σ' => v = some (.int (nI (sumN (a 2) np))) ∧ σ' = σ) := by
  refine CN.of (by decide) [some (.ref 42), none, none] (fun _ => Nat.le_of_ble_eq_true rfl) (fun _ => rfl) (fun cx hc => ?_)
  have hW1 := hW.1
  have hW2 := hW.2.1
  have hF : Eqo 42 17 σ σ := Eqo.rf
  refine R.iconst hc ic_0 dX7_deepAll_0 ?_
  refine R.istn1 hc dX7_deepAll_1 (by decide) rfl ?_
  refine R.iconst hc ic_0 dX7_deepAll_2 ?_
  refine R.istn2 hc dX7_deepAll_3 (by decide) rfl ?_
  refine rl_down (P := fun q => R cx 0 0 n σ 4 [some (.ref 42), some (.int (nI (sumN (a 2) q))), some (.int (nI q))] []) np ?_ (fun q hq ih => ?_) 0 (Nat.zero_le _)
  · refine R.iload_n (j := 2) (i := 2) hc rfl rfl dX7_deepAll_4 ?_
    refine R.aload_n (j := 0) (i := 0) hc rfl rfl dX7_deepAll_5 ?_
    refine R.get hc gf_X7_7_r dX7_deepAll_6 (hR.1) rfl ?_
    refine R.iconst hc ic_0 dX7_deepAll_9 ?_
    refine R.ialdV hc hR.g0 (by omega) (by decide) dX7_deepAll_10 (hN.1) ?_
    refine R.icmpN_ge (tgt := 28) hc dX7_deepAll_11 (by decide) (by omega) (by omega) (fun _ => ?_) (fun z => absurd (Nat.le_refl _) z)
    refine R.iload_n (j := 1) (i := 1) hc rfl rfl dX7_deepAll_28 ?_
    exact R.iret hc rfl dX7_deepAll_29 ⟨rfl, rfl, rfl⟩
  · rw [sumN] at ih
    refine R.iload_n (j := 2) (i := 2) hc rfl rfl dX7_deepAll_4 ?_
    refine R.aload_n (j := 0) (i := 0) hc rfl rfl dX7_deepAll_5 ?_
    refine R.get hc gf_X7_7_r dX7_deepAll_6 (hR.1) rfl ?_
    refine R.iconst hc ic_0 dX7_deepAll_9 ?_
    refine R.ialdV hc hR.g0 (by omega) (by decide) dX7_deepAll_10 (hN.1) ?_
    refine R.icmpN_ge (tgt := 28) hc dX7_deepAll_11 (by decide) (by omega) (by omega) (fun z => absurd z (by omega)) (fun _ => ?_)
    refine R.iload_n (j := 1) (i := 1) hc rfl rfl dX7_deepAll_14 ?_
    refine R.aload_n (j := 0) (i := 0) hc rfl rfl dX7_deepAll_15 ?_
    refine R.iload_n (j := 2) (i := 2) hc rfl rfl dX7_deepAll_16 ?_
    refine R.cVr hc m_X7_deep lk_X7_78 dX7_deepAll_17 (n_X7_deep l d X n hR hN hW (by omega)) (hR.1) rfl rfl rfl (by omega) ⟨Nat.le_refl _, Nat.le_refl _⟩ (Nat.le_of_ble_eq_true rfl) ?_
    first | refine R.iaddN hc dX7_deepAll_20 ?_ | refine R.iadd hc dX7_deepAll_20 ?_
    refine R.istn1 hc dX7_deepAll_21 (by decide) rfl ?_
    refine R.iinc2 hc dX7_deepAll_22 (iiN1 _) (by decide) rfl ?_
    refine R.goto (tgt := 4) hc dX7_deepAll_25 (by decide) ?_
    exact ih
theorem cI_pos {c : Nat} (h : c ≠ 0) : cI c = nI (c - 1) := by cases c with
  | zero => exact absurd rfl h
  | succ c => rfl
set_option maxHeartbeats 4000000 in
set_option maxRecDepth 100000 in
theorem c_X7_claimedOnes (l : Launch) (d : Nat) (X : Nat × (Nat → Int32)) (n : Nat) {σ : Wd} {A : Nat → Nat → Int32} {L : Nat → Nat → Int64} {I : Nat → Int32} (hR : RW σ A L I) {a : SA} {np nq hr dr : Nat} (hN : NowR (A 0) a np nq hr dr) (hW : WF a np nq) : CN l yX7_claimedOnes cX7_claimedOnes 3 (some .int) ((d + 2)) X n [.ref 42] σ (fun v σ' => v = some (.int (nI (clS a nq))) ∧ σ' = σ) := by
  refine CN.of (by decide) [some (.ref 42), none, none] (fun _ => Nat.le_of_ble_eq_true rfl) (fun _ => rfl) (fun cx hc => ?_)
  have hW1 := hW.1
  have hW2 := hW.2.1
  have hF : Eqo 42 17 σ σ := Eqo.rf
  refine R.iconst hc ic_0 dX7_claimedOnes_0 ?_
  refine R.istn1 hc dX7_claimedOnes_1 (by decide) rfl ?_
  refine R.iconst hc ic_0 dX7_claimedOnes_2 ?_
  refine R.istn2 hc dX7_claimedOnes_3 (by decide) rfl ?_
  refine rl_down (P := fun q => R cx 0 0 n σ 4 [some (.ref 42), some (.int (nI (clS a q))), some (.int (nI q))] []) nq ?_ (fun q hq ih => ?_) 0 (Nat.zero_le _)
  · refine R.iload_n (j := 2) (i := 2) hc rfl rfl dX7_claimedOnes_4 ?_
    refine R.aload_n (j := 0) (i := 0) hc rfl rfl dX7_claimedOnes_5 ?_
    refine R.get hc gf_X7_7_r dX7_claimedOnes_6 (hR.1) rfl ?_
    refine R.iconst hc ic_1 dX7_claimedOnes_9 ?_
    refine R.ialdV hc hR.g0 (by omega) (by decide) dX7_claimedOnes_10 (hN.2.1) ?_
    refine R.icmpN_ge (tgt := 44) hc dX7_claimedOnes_11 (by decide) (by omega) (by omega) (fun _ => ?_) (fun z => absurd (Nat.le_refl _) z)
    refine R.iload_n (j := 1) (i := 1) hc rfl rfl dX7_claimedOnes_44 ?_
    exact R.iret hc rfl dX7_claimedOnes_45 ⟨rfl, rfl, rfl⟩
  · rw [clS] at ih
    obtain ⟨g0, g1, g2, g3⟩ := hW.2.2.2.1 q hq
    refine R.iload_n (j := 2) (i := 2) hc rfl rfl dX7_claimedOnes_4 ?_
    refine R.aload_n (j := 0) (i := 0) hc rfl rfl dX7_claimedOnes_5 ?_
    refine R.get hc gf_X7_7_r dX7_claimedOnes_6 (hR.1) rfl ?_
    refine R.iconst hc ic_1 dX7_claimedOnes_9 ?_
    refine R.ialdV hc hR.g0 (by omega) (by decide) dX7_claimedOnes_10 (hN.2.1) ?_
    refine R.icmpN_ge (tgt := 44) hc dX7_claimedOnes_11 (by decide) (by omega) (by omega) (fun z => absurd z (by omega)) (fun _ => ?_)
    refine R.iload_n (j := 1) (i := 1) hc rfl rfl dX7_claimedOnes_14 ?_
    refine R.aload_n (j := 0) (i := 0) hc rfl rfl dX7_claimedOnes_15 ?_
    refine R.iload_n (j := 2) (i := 2) hc rfl rfl dX7_claimedOnes_16 ?_
    refine R.cVr hc m_X7_claimed lk_X7_70 dX7_claimedOnes_17 (n_X7_claimed l d X n hR hN hW (by omega)) (hR.1) rfl rfl rfl (by omega) ⟨Nat.le_refl _, Nat.le_refl _⟩ (Nat.le_of_ble_eq_true rfl) ?_
    refine R.bipush hc bp_m4 dX7_claimedOnes_20 ?_
    refine R.icmp_ne (tgt := 29) hc dX7_claimedOnes_22 (by decide) (fun z => ?_) (fun z => ?_)
    · have z : a 6 q ≠ 0 := fun y => z ((cI_n4 (by omega)).mpr y)
      rw [if_neg z] at ih
      refine R.iconst hc ic_1 dX7_claimedOnes_29 ?_
      refine R.aload_n (j := 0) (i := 0) hc rfl rfl dX7_claimedOnes_30 ?_
      refine R.iload_n (j := 2) (i := 2) hc rfl rfl dX7_claimedOnes_31 ?_
      refine R.cVr hc m_X7_claimed lk_X7_70 dX7_claimedOnes_32 (n_X7_claimed l d X n hR hN hW (by omega)) (hR.1) rfl rfl rfl (by omega) ⟨Nat.le_refl _, Nat.le_refl _⟩ (Nat.le_of_ble_eq_true rfl) ?_
      rw [cI_pos z]
      first | refine R.shl1N hc (by omega) dX7_claimedOnes_35 ?_ | refine R.ishl hc dX7_claimedOnes_35 ?_
      first | refine R.iorN hc dX7_claimedOnes_36 ?_ | refine R.ior hc dX7_claimedOnes_36 ?_
      refine R.istn1 hc dX7_claimedOnes_37 (by decide) rfl ?_
      refine R.iinc2 hc dX7_claimedOnes_38 (iiN1 _) (by decide) rfl ?_
      refine R.goto (tgt := 4) hc dX7_claimedOnes_41 (by decide) ?_
      exact ih
    · rw [if_pos ((cI_n4 (by omega)).mp z)] at ih
      refine R.iconst hc ic_0 dX7_claimedOnes_25 ?_
      refine R.goto (tgt := 36) hc dX7_claimedOnes_26 (by decide) ?_
      first | refine R.iorN hc dX7_claimedOnes_36 ?_ | refine R.ior hc dX7_claimedOnes_36 ?_
      refine R.istn1 hc dX7_claimedOnes_37 (by decide) rfl ?_
      refine R.iinc2 hc dX7_claimedOnes_38 (iiN1 _) (by decide) rfl ?_
      refine R.goto (tgt := 4) hc dX7_claimedOnes_41 (by decide) ?_
      exact ih
