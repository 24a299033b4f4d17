/-- the letter at a place, or 0 -/
def chr (tp : Nat → Nat) (tl i : Nat) : Nat := if i < tl then tp i else 0
theorem chr_lt {tp : Nat → Nat} {tl i : Nat} (hU : WT tp tl) : chr tp tl i < 127 := by
  unfold chr
  split
  · rename_i h; exact (hU.2 i h).2
  · omega
/-- where the reading stands, and whether there was a fault -/
def PT (σ σ' : Wd) (A : Nat → Nat → Int32) (L : Nat → Nat → Int64) (I : Nat → Int32) (pl : Nat) (f : Bool) : Prop := ∃ J, RW σ' A L J ∧ J 1 = nI pl ∧ J 2 = b2 f ∧ (∀ k, k ≠ 1 → k ≠ 2 → J k = I k) ∧ Eqo 42 17 σ σ'
def PO (σ σ' : Wd) (A : Nat → Nat → Int32) (L : Nat → Nat → Int64) (I : Nat → Int32) (v : Option Value) (r : PR) : Prop := match r with
  | .inl e => (∃ x, v = some (.int x)) ∧ PT σ σ' A L I e true
  | .inr q => v = some (.int (nI q.1)) ∧ PT σ σ' A L I q.2 false
theorem PO.tr {σ0 σ σ' : Wd} {A : Nat → Nat → Int32} {L : Nat → Nat → Int64} {I J : Nat → Int32} {v : Option Value} {r : PR} (hE : Eqo 42 17 σ0 σ) (hJ : ∀ k, k ≠ 1 → k ≠ 2 → J k = I k) (h : PO σ σ' A L J v r) : PO σ0 σ' A L I v r := by
  cases r with
  | inl e =>
    obtain ⟨⟨x, hx⟩, K, k0, k1, k2, k3, k4⟩ := h
    exact ⟨⟨x, hx⟩, K, k0, k1, k2, fun k h1 h2 => (k3 k h1 h2).trans (hJ k h1 h2), hE.tr k4⟩
  | inr q =>
    obtain ⟨hx, K, k0, k1, k2, k3, k4⟩ := h
    exact ⟨hx, K, k0, k1, k2, fun k h1 h2 => (k3 k h1 h2).trans (hJ k h1 h2), hE.tr k4⟩
theorem PO.v {σ σ' : Wd} {A : Nat → Nat → Int32} {L : Nat → Nat → Int64} {I : Nat → Int32} {v : Option Value} {r : PR} (h : PO σ σ' A L I v r) : ∃ x, v = some (.int x) := by
  cases r with
  | inl e => exact h.1
  | inr q => exact ⟨_, h.1⟩
theorem sightP_no {tp : Nat → Nat} {tl pl : Nat} (h : ¬ (48 ≤ chr tp tl (sk tp tl pl) ∧ chr tp tl (sk tp tl pl) ≤ 55)) : sightP tp tl pl = .inl (sk tp tl pl) := by
  unfold sightP
  split
  · rfl
  · rename_i v e
    unfold dgt at e
    split at e
    · rename_i u
      unfold chr at h
      rw [if_pos u.1] at h
      rw [if_neg (by omega)]
    · omega
theorem sightP_yes {tp : Nat → Nat} {tl pl : Nat} (h : 48 ≤ chr tp tl (sk tp tl pl) ∧ chr tp tl (sk tp tl pl) ≤ 55) : sightP tp tl pl = .inr (chr tp tl (sk tp tl pl) - 48, sk tp tl pl + 1) := by
  have hs : sk tp tl pl < tl := by
    unfold chr at h
    split at h
    · assumption
    · omega
  have ec : chr tp tl (sk tp tl pl) = tp (sk tp tl pl) := by unfold chr; rw [if_pos hs]
  rw [ec] at h ⊢
  unfold sightP
  have e : dgt tp tl (sk tp tl pl) = tp (sk tp tl pl) - 48 + 1 := by unfold dgt; rw [if_pos ⟨hs, by omega, by omega⟩]
  rw [e]
  show (if tp (sk tp tl pl) - 48 < 8 then _ else _) = _
  rw [if_pos (by omega)]
def stp (f : Bool) (P : Nat → PR) (pl : Nat) : PR := if f then .inl pl else P pl
theorem dig48 : ∀ c, c < 128 → inR (nI c - nI 48) 0 7 = decide (48 ≤ c ∧ c ≤ 55) := by decide +kernel
theorem dig49 : ∀ c, c < 128 → inR (nI c) 48 57 = decide (48 ≤ c ∧ c ≤ 57) := by decide +kernel
theorem sub48 : ∀ c, c < 128 → 48 ≤ c → nI c - nI 48 = nI (c - 48) := by decide +kernel
theorem num48 : ∀ v, v < 10 → ∀ c, c < 128 → 48 ≤ c → nI (10 * v + c) - nI 48 = nI (10 * v + (c - 48)) := by decide +kernel
theorem inR_n {v lo hi : Nat} (h1 : v < 2 ^ 31) (h2 : lo < 2 ^ 31) (h3 : hi < 2 ^ 31) : inR (nI v) lo hi = decide (lo ≤ v ∧ v ≤ hi) := by
  unfold inR
  exact decide_eq_decide.mpr ⟨fun h => ⟨(nI_leI h2 h1).mp h.1, (nI_leI h1 h3).mp h.2⟩, fun h => ⟨(nI_leI h2 h1).mpr h.1, (nI_leI h1 h3).mpr h.2⟩⟩
set_option maxHeartbeats 4000000 in
set_option maxRecDepth 100000 in
theorem c_X7_here (l : Launch) (d : Nat) (X : Nat × (Nat → Int32)) (n : Nat) {σ : Wd} {A : Nat → Nat → Int32} {L : Nat → Nat → Int64} {I : Nat → Int32} (hR : RW σ A L I) {tp : Nat → Nat} {tl pl : Nat} (hT : ∀ j, j < tl → A 2 j = nI (tp j)) (hU : WT tp tl) (h0 : I 0 = nI tl) (h1 : I 1 = nI pl) (hpl : pl ≤ tl) : CN l yX7_here cX7_here 1 (some .int) (d) X n [.ref 42] σ (fun v σ' => v = some (.int (nI (chr tp tl (sk tp tl pl)))) ∧ ∃ J, RW σ' A L J ∧ J 1 = nI (sk tp tl pl) ∧ (∀ k, k ≠ 1 → J k = I k) ∧ Eqo 42 17 σ σ') := by
  refine CN.of (by decide) [some (.ref 42)] (fun _ => Nat.le_of_ble_eq_true rfl) (fun _ => rfl) (fun cx hc => ?_)
  have hU1 := hU.1
  have hF : Eqo 42 17 σ σ := Eqo.rf
  obtain ⟨σ0, hσ0⟩ : ∃ z, z = σ := ⟨_, rfl⟩
  rw [← hσ0] at hc
  have hF : Eqo 42 17 σ0 σ := by rw [hσ0]; exact Eqo.rf
  have key : ∀ (j p : Nat) (σ : Wd) (J : Nat → Int32), p + j = tl → RW σ A L J → J 1 = nI p → J 0 = nI tl → (∀ k, k ≠ 1 → J k = I k) → sk tp tl pl = sk tp tl p → Eqo 42 17 σ0 σ → R cx 0 0 n σ 0 [some (.ref 42)] [] := by
    intro j
    induction j with
    | zero =>
      intro p σ J hp hR j1 j0 hJ e hF
      have ep : sk tp tl p = p := sk_here (Or.inl (by omega))
      rw [e, ep] at hc
      rw [chr, if_neg (by omega)] at hc
      refine R.aload_n (j := 0) (i := 0) hc rfl rfl dX7_here_0 ?_
      refine R.gtV hc gf_X7_155_r dX7_here_1 hR.1 rfl (j1) ?_
      refine R.aload_n (j := 0) (i := 0) hc rfl rfl dX7_here_4 ?_
      refine R.gtV hc gf_X7_152_r dX7_here_5 hR.1 rfl (j0) ?_
      refine R.icmpN_ge (tgt := 38) hc dX7_here_8 (by decide) (by omega) (by omega) (fun _ => ?_) (fun z => absurd (by omega) z)
      refine R.aload_n (j := 0) (i := 0) hc rfl rfl dX7_here_38 ?_
      refine R.gtV hc gf_X7_155_r dX7_here_39 hR.1 rfl (j1) ?_
      refine R.aload_n (j := 0) (i := 0) hc rfl rfl dX7_here_42 ?_
      refine R.gtV hc gf_X7_152_r dX7_here_43 hR.1 rfl (j0) ?_
      refine R.icmpN_ge (tgt := 61) hc dX7_here_46 (by decide) (by omega) (by omega) (fun _ => ?_) (fun z => absurd (by omega) z)
      refine R.iconst hc ic_0 dX7_here_61 ?_
      exact R.iret hc rfl dX7_here_62 ⟨rfl, rfl, J, hR, j1, hJ, hF⟩
    | succ j ih =>
      intro p σ J hp hR j1 j0 hJ e hF
      obtain ⟨c1, c2⟩ := hU.2 p (by omega)
      refine R.aload_n (j := 0) (i := 0) hc rfl rfl dX7_here_0 ?_
      refine R.gtV hc gf_X7_155_r dX7_here_1 hR.1 rfl (j1) ?_
      refine R.aload_n (j := 0) (i := 0) hc rfl rfl dX7_here_4 ?_
      refine R.gtV hc gf_X7_152_r dX7_here_5 hR.1 rfl (j0) ?_
      refine R.icmpN_ge (tgt := 38) hc dX7_here_8 (by decide) (by omega) (by omega) (fun z => absurd z (by omega)) (fun _ => ?_)
      refine R.aload_n (j := 0) (i := 0) hc rfl rfl dX7_here_11 ?_
      refine R.get hc gf_X7_16_r dX7_here_12 (hR.1) rfl ?_
      refine R.aload_n (j := 0) (i := 0) hc rfl rfl dX7_here_15 ?_
      refine R.gtV hc gf_X7_155_r dX7_here_16 hR.1 rfl (j1) ?_
      refine R.ialdV hc hR.g2 (by omega) (by decide) dX7_here_19 (hT p (by omega)) ?_
      refine R.bipush hc bp_32 dX7_here_20 ?_
      refine R.icmpN_ne (tgt := 38) hc dX7_here_22 (by decide) (by omega) (by omega) (fun z => ?_) (fun z => ?_)
      · have ep : sk tp tl p = p := sk_here (Or.inr z)
        rw [e, ep] at hc
        rw [chr, if_pos (by omega)] at hc
        refine R.aload_n (j := 0) (i := 0) hc rfl rfl dX7_here_38 ?_
        refine R.gtV hc gf_X7_155_r dX7_here_39 hR.1 rfl (j1) ?_
        refine R.aload_n (j := 0) (i := 0) hc rfl rfl dX7_here_42 ?_
        refine R.gtV hc gf_X7_152_r dX7_here_43 hR.1 rfl (j0) ?_
        refine R.icmpN_ge (tgt := 61) hc dX7_here_46 (by decide) (by omega) (by omega) (fun z => absurd z (by omega)) (fun _ => ?_)
        refine R.aload_n (j := 0) (i := 0) hc rfl rfl dX7_here_49 ?_
        refine R.get hc gf_X7_16_r dX7_here_50 (hR.1) rfl ?_
        refine R.aload_n (j := 0) (i := 0) hc rfl rfl dX7_here_53 ?_
        refine R.gtV hc gf_X7_155_r dX7_here_54 hR.1 rfl (j1) ?_
        refine R.ialdV hc hR.g2 (by omega) (by decide) dX7_here_57 (hT p (by omega)) ?_
        refine R.goto (tgt := 62) hc dX7_here_58 (by decide) ?_
        exact R.iret hc rfl dX7_here_62 ⟨rfl, rfl, J, hR, j1, hJ, hF⟩
      · refine R.aload_n (j := 0) (i := 0) hc rfl rfl dX7_here_25 ?_
        refine R.dup hc rfl dX7_here_26 ?_
        refine R.gtV hc gf_X7_155_r dX7_here_27 hR.1 rfl (j1) ?_
        refine R.iconst hc ic_1 dX7_here_30 ?_
        first | refine R.iaddN hc dX7_here_31 ?_ | refine R.iadd hc dX7_here_31 ?_
        refine R.putG hc gf_X7_155 dX7_here_32 hR.1 (Nat.le_of_ble_eq_true rfl) (fun _ => rfl) (fun _ => rfl) (fun σ hX hE => ?_)
        have hR := hR.p1 hX hE
        have hF := hF.tr (hE.wid (by omega))
        refine R.goto (tgt := 0) hc dX7_here_35 (by decide) ?_
        exact ih (p + 1) σ _ (by omega) hR rfl j0 (fun k hk => by rw [un, if_neg hk]; exact hJ k hk) (by rw [e]; exact sk_step (by omega) z) hF
  exact key (tl - pl) pl σ I (by omega) hR h1 h0 (fun _ _ => rfl) rfl hF
set_option maxHeartbeats 4000000 in
set_option maxRecDepth 100000 in
theorem c_X7_must (l : Launch) (d : Nat) (X : Nat × (Nat → Int32)) (n : Nat) {σ : Wd} {A : Nat → Nat → Int32} {L : Nat → Nat → Int64} {I : Nat → Int32} (hR : RW σ A L I) {pl : Nat} {f b : Bool} (h1 : I 1 = nI pl) (h2 : I 2 = b2 f) : CN l yX7_must cX7_must 2 none (d) X n [.ref 42, .int (b2 b)] σ (fun v σ' => v = none ∧ PT σ σ' A L I (if (f || !b) = true then pl else pl + 1) (f || !b)) := by
  refine CN.of (by decide) [some (.ref 42), some (.int (b2 b))] (fun _ => Nat.le_of_ble_eq_true rfl) (fun _ => rfl) (fun cx hc => ?_)
  have hF : Eqo 42 17 σ σ := Eqo.rf
  have tl1 : ∀ (σ1 : Wd) (g : Bool), RW σ1 A L (un I 2 (b2 g)) → Eqo 42 17 σ σ1 → (f || !b) = g → R cx 0 0 n σ1 20 [some (.ref 42), some (.int (b2 b))] [] := by
    intro σ1 g hR hF e
    have h1 : un I 2 (b2 g) 1 = nI pl := h1
    have h2 : un I 2 (b2 g) 2 = b2 g := rfl
    rw [e] at hc
    refine R.aload_n (j := 0) (i := 0) hc rfl rfl dX7_must_20 ?_
    refine R.dup hc rfl dX7_must_21 ?_
    refine R.gtV hc gf_X7_155_r dX7_must_22 hR.1 rfl (h1) ?_
    refine R.aload_n (j := 0) (i := 0) hc rfl rfl dX7_must_25 ?_
    refine R.gtV hc gf_X7_158_r dX7_must_26 hR.1 rfl (h2) ?_
    refine R.ifB_eq (tgt := 36) hc dX7_must_29 (by decide) (fun z => ?_) (fun z => ?_)
    · subst z
      refine R.iconst hc ic_1 dX7_must_36 ?_
      first | refine R.iaddN hc dX7_must_37 ?_ | refine R.iadd hc dX7_must_37 ?_
      refine R.putG hc gf_X7_155 dX7_must_38 hR.1 (Nat.le_of_ble_eq_true rfl) (fun _ => rfl) (fun _ => rfl) (fun σ hX hE => ?_)
      have hR := hR.p1 hX hE
      have hF := hF.tr (hE.wid (by omega))
      exact R.vret hc rfl dX7_must_41 ⟨rfl, rfl, _, hR, rfl, rfl, fun k k1 k2 => by rw [un, if_neg k1, un, if_neg k2], hF⟩
    · subst z
      refine R.iconst hc ic_0 dX7_must_32 ?_
      refine R.goto (tgt := 37) hc dX7_must_33 (by decide) ?_
      first | refine R.iaddN hc dX7_must_37 ?_ | refine R.iadd hc dX7_must_37 ?_
      refine R.putG hc gf_X7_155 dX7_must_38 hR.1 (Nat.le_of_ble_eq_true rfl) (fun _ => rfl) (fun _ => rfl) (fun σ hX hE => ?_)
      have hR := hR.p1 hX hE
      have hF := hF.tr (hE.wid (by omega))
      exact R.vret hc rfl dX7_must_41 ⟨rfl, rfl, _, hR, rfl, rfl, fun k k1 k2 => by rw [un, if_neg k1, un, if_neg k2], hF⟩
  refine R.aload_n (j := 0) (i := 0) hc rfl rfl dX7_must_0 ?_
  refine R.aload_n (j := 0) (i := 0) hc rfl rfl dX7_must_1 ?_
  refine R.gtV hc gf_X7_158_r dX7_must_2 hR.1 rfl (h2) ?_
  refine R.ifB_ne (tgt := 12) hc dX7_must_5 (by decide) (fun z => ?_) (fun z => ?_)
  · refine R.iconst hc ic_1 dX7_must_12 ?_
    refine R.goto (tgt := 17) hc dX7_must_13 (by decide) ?_
    refine R.putG hc gf_X7_158 dX7_must_17 hR.1 (Nat.le_of_ble_eq_true rfl) (fun _ => rfl) (fun _ => rfl) (fun σ hX hE => ?_)
    have hR := hR.p2 hX hE
    have hF := hF.tr (hE.wid (by omega))
    exact tl1 σ true hR hF (by rw [z]; rfl)
  refine R.iload_n (j := 1) (i := 1) hc rfl rfl dX7_must_8 ?_
  refine R.ifB_ne (tgt := 16) hc dX7_must_9 (by decide) (fun y => ?_) (fun y => ?_)
  · refine R.iconst hc ic_0 dX7_must_16 ?_
    refine R.putG hc gf_X7_158 dX7_must_17 hR.1 (Nat.le_of_ble_eq_true rfl) (fun _ => rfl) (fun _ => rfl) (fun σ hX hE => ?_)
    have hR := hR.p2 hX hE
    have hF := hF.tr (hE.wid (by omega))
    exact tl1 σ false hR hF (by rw [z, y]; rfl)
  · refine R.iconst hc ic_1 dX7_must_12 ?_
    refine R.goto (tgt := 17) hc dX7_must_13 (by decide) ?_
    refine R.putG hc gf_X7_158 dX7_must_17 hR.1 (Nat.le_of_ble_eq_true rfl) (fun _ => rfl) (fun _ => rfl) (fun σ hX hE => ?_)
    have hR := hR.p2 hX hE
    have hF := hF.tr (hE.wid (by omega))
    exact tl1 σ true hR hF (by rw [z, y]; rfl)
set_option maxHeartbeats 4000000 in
set_option maxRecDepth 100000 in
theorem c_X7_digit (l : Launch) (d : Nat) (X : Nat × (Nat → Int32)) (n : Nat) {σ : Wd} {A : Nat → Nat → Int32} {L : Nat → Nat → Int64} {I : Nat → Int32} (hR : RW σ A L I) {tp : Nat → Nat} {tl pl : Nat} (hT : ∀ j, j < tl → A 2 j = nI (tp j)) (hU : WT tp tl) (h0 : I 0 = nI tl) (h1 : I 1 = nI pl) (hpl : pl ≤ tl) {f : Bool} (h2 : I 2 = b2 f) : CN l yX7_digit cX7_digit 3 (some .int) ((d + 1)) X n [.ref 42, .int (nI 7)] σ (fun v σ' => PO σ σ' A L I v (stp f (sightP tp tl) pl)) := by
  refine CN.of (by decide) [some (.ref 42), some (.int (nI 7)), none] (fun _ => Nat.le_of_ble_eq_true rfl) (fun _ => rfl) (fun cx hc => ?_)
  have hF : Eqo 42 17 σ σ := Eqo.rf
  refine R.aload_n (j := 0) (i := 0) hc rfl rfl dX7_digit_0 ?_
  refine R.gtV hc gf_X7_158_r dX7_digit_1 hR.1 rfl (h2) ?_
  refine R.ifB_eq (tgt := 11) hc dX7_digit_4 (by decide) (fun z => ?_) (fun z => ?_)
  · subst z
    have hcl := chr_lt (i := sk tp tl pl) hU
    have hsk := sk_le (tp := tp) hpl
    rw [stp, if_neg (by decide)] at hc
    refine R.aload_n (j := 0) (i := 0) hc rfl rfl dX7_digit_11 ?_
    refine R.cVi hc m_X7_here lk_X7_162 dX7_digit_12 (c_X7_here l d X n hR hT hU h0 h1 hpl) (hR.1) rfl rfl rfl (by omega) ⟨Nat.le_refl _, Nat.le_refl _⟩ (Nat.le_of_ble_eq_true rfl) (fun σ hX => ?_)
    obtain ⟨J, hR, j1, hJ, hE⟩ := hX
    have hF := hF.tr hE
    refine R.bipush hc bp_48 dX7_digit_15 ?_
    have j2 : J 2 = b2 false := by rw [hJ 2 (by omega)]; exact h2
    refine R.isub hc dX7_digit_17 ?_
    refine R.istn2 hc dX7_digit_18 (by decide) rfl ?_
    refine R.aload_n (j := 0) (i := 0) hc rfl rfl dX7_digit_19 ?_
    refine R.iload_n (j := 2) (i := 2) hc rfl rfl dX7_digit_20 ?_
    refine R.i2l hc dX7_digit_21 ?_
    refine R.lconst (j := 0) (v := lN 0) hc rfl dX7_digit_22 ?_
    refine R.iload_n (j := 1) (i := 1) hc rfl rfl dX7_digit_23 ?_
    refine R.i2l hc dX7_digit_24 ?_
    refine R.cSr hc m_X7_in lk_X7_59 dX7_digit_25 (c_X7_in l d X n _ _ _) rfl rfl (by omega) ⟨Nat.le_refl _, Nat.le_refl _⟩ (Nat.le_of_ble_eq_true rfl) ?_
    rw [nI_l (show 7 < 2 ^ 31 by decide), inL_R (by decide) (by decide), dig48 _ (by omega)]
    refine R.cVu hc m_X7_must lk_X7_165 dX7_digit_28 (c_X7_must l d X n hR (f := false) j1 j2) (hR.1) rfl rfl rfl (by omega) ⟨Nat.le_refl _, Nat.le_refl _⟩ (Nat.le_of_ble_eq_true rfl) (fun σ hX => ?_)
    obtain ⟨K, hR, k1, k2, hK, hE⟩ := hX
    have hF := hF.tr hE
    have hKI : ∀ k, k ≠ 1 → k ≠ 2 → K k = I k := fun k h3 h4 => (hK k h3 h4).trans (hJ k h3)
    refine R.iload_n (j := 2) (i := 2) hc rfl rfl dX7_digit_31 ?_
    refine R.iret hc rfl dX7_digit_32 ⟨rfl, ?_⟩
    by_cases y : 48 ≤ chr tp tl (sk tp tl pl) ∧ chr tp tl (sk tp tl pl) ≤ 55
    · rw [decide_eq_true y] at k1 k2
      rw [sightP_yes y, sub48 _ (by omega) y.1]
      exact ⟨rfl, K, hR, k1, k2, hKI, hF⟩
    · rw [decide_eq_false y] at k1 k2
      rw [sightP_no y]
      exact ⟨⟨_, rfl⟩, K, hR, k1, k2, hKI, hF⟩
  · subst z
    rw [stp, if_pos rfl] at hc
    refine R.iconst hc ic_m1 dX7_digit_7 ?_
    refine R.goto (tgt := 18) hc dX7_digit_8 (by decide) ?_
    refine R.istn2 hc dX7_digit_18 (by decide) rfl ?_
    refine R.aload_n (j := 0) (i := 0) hc rfl rfl dX7_digit_19 ?_
    refine R.iload_n (j := 2) (i := 2) hc rfl rfl dX7_digit_20 ?_
    refine R.i2l hc dX7_digit_21 ?_
    refine R.lconst (j := 0) (v := lN 0) hc rfl dX7_digit_22 ?_
    refine R.iload_n (j := 1) (i := 1) hc rfl rfl dX7_digit_23 ?_
    refine R.i2l hc dX7_digit_24 ?_
    refine R.cSr hc m_X7_in lk_X7_59 dX7_digit_25 (c_X7_in l d X n _ _ _) rfl rfl (by omega) ⟨Nat.le_refl _, Nat.le_refl _⟩ (Nat.le_of_ble_eq_true rfl) ?_
    rw [nI_l (show 7 < 2 ^ 31 by decide), inL_R (by decide) (by decide)]
    refine R.cVu hc m_X7_must lk_X7_165 dX7_digit_28 (c_X7_must l d X n hR (f := true) h1 h2) (hR.1) rfl rfl rfl (by omega) ⟨Nat.le_refl _, Nat.le_refl _⟩ (Nat.le_of_ble_eq_true rfl) (fun σ hX => ?_)
    obtain ⟨K, hR, k1, k2, hK, hE⟩ := hX
    have hF := hF.tr hE
    refine R.iload_n (j := 2) (i := 2) hc rfl rfl dX7_digit_31 ?_
    exact R.iret hc rfl dX7_digit_32 ⟨rfl, ⟨_, rfl⟩, K, hR, k1, k2, hK, hF⟩
set_option maxHeartbeats 4000000 in
set_option maxRecDepth 100000 in
theorem c_X7_number (l : Launch) (d : Nat) (X : Nat × (Nat → Int32)) (n : Nat) {σ : Wd} {A : Nat → Nat → Int32} {L : Nat → Nat → Int64} {I : Nat → Int32} (hR : RW σ A L I) {tp : Nat → Nat} {tl pl : Nat} (hT : ∀ j, j < tl → A 2 j = nI (tp j)) (hU : WT tp tl) (h0 : I 0 = nI tl) (h1 : I 1 = nI pl) (hpl : pl ≤ tl) {f : Bool} (h2 : I 2 = b2 f) {lo hi : Nat} (hlo : lo ≤ 1000) (hhi : hi ≤ 1000) : CN l yX7_number cX7_number 6 (some .int) ((d + 1)) X n [.ref 42, .int (nI lo), .int (nI hi)] σ (fun v σ' => PO σ σ' A L I v (stp f (numP tp tl lo hi) pl)) := by
  refine CN.of (by decide) [some (.ref 42), some (.int (nI lo)), some (.int (nI hi)), none, none, none] (fun _ => Nat.le_of_ble_eq_true rfl) (fun _ => rfl) (fun cx hc => ?_)
  have hU1 := hU.1
  have hF : Eqo 42 17 σ σ := Eqo.rf
  obtain ⟨σ0, hσ0⟩ : ∃ z, z = σ := ⟨_, rfl⟩
  rw [← hσ0] at hc
  have hF : Eqo 42 17 σ0 σ := by rw [hσ0]; exact Eqo.rf
  have flt : ∀ (σ : Wd) (J : Nat → Int32) (e : Nat) (v3 v4 : Option Value) (x : Int32), RW σ A L J → J 1 = nI e → J 2 = b2 true → (∀ k, k ≠ 1 → k ≠ 2 → J k = I k) → Eqo 42 17 σ0 σ → stp f (numP tp tl lo hi) pl = .inl e → R cx 0 0 n σ 55 [some (.ref 42), some (.int (nI lo)), some (.int (nI hi)), v3, v4, some (.int x)] [] := by
    intro σ J e v3 v4 x hR h1 h2 hJ hF hr
    rw [hr] at hc
    refine R.aload_n (j := 0) (i := 0) hc rfl rfl dX7_number_55 ?_
    refine R.gtV hc gf_X7_158_r dX7_number_56 hR.1 rfl (h2) ?_
    refine R.ifB_ne (tgt := 139) hc dX7_number_59 (by decide) (fun _ => ?_) (fun z => absurd z (by decide))
    refine R.aload_n (j := 0) (i := 0) hc rfl rfl dX7_number_139 ?_
    refine R.gtV hc gf_X7_158_r dX7_number_140 hR.1 rfl (h2) ?_
    refine R.ifB_ne (tgt := 170) hc dX7_number_143 (by decide) (fun _ => ?_) (fun z => absurd z (by decide))
    refine R.iload (i := 5) hc rfl dX7_number_170 ?_
    exact R.iret hc rfl dX7_number_172 ⟨rfl, ⟨_, rfl⟩, J, hR, h1, h2, hJ, hF⟩
  refine R.aload_n (j := 0) (i := 0) hc rfl rfl dX7_number_0 ?_
  refine R.gtV hc gf_X7_158_r dX7_number_1 hR.1 rfl (h2) ?_
  refine R.ifB_eq (tgt := 11) hc dX7_number_4 (by decide) (fun z => ?_) (fun z => ?_)
  rotate_left
  · subst z
    refine R.iconst hc ic_0 dX7_number_7 ?_
    refine R.goto (tgt := 15) hc dX7_number_8 (by decide) ?_
    refine R.istn3 hc dX7_number_15 (by decide) rfl ?_
    refine R.aload_n (j := 0) (i := 0) hc rfl rfl dX7_number_16 ?_
    refine R.gtV hc gf_X7_155_r dX7_number_17 hR.1 rfl (h1) ?_
    refine R.ist4 hc dX7_number_20 (by decide) rfl ?_
    refine R.iconst hc ic_0 dX7_number_22 ?_
    refine R.ist5 hc dX7_number_23 (by decide) rfl ?_
    refine R.aload_n (j := 0) (i := 0) hc rfl rfl dX7_number_25 ?_
    refine R.aload_n (j := 0) (i := 0) hc rfl rfl dX7_number_26 ?_
    refine R.gtV hc gf_X7_158_r dX7_number_27 hR.1 rfl (h2) ?_
    refine R.ifB_ne (tgt := 47) hc dX7_number_30 (by decide) (fun _ => ?_) (fun z => absurd z (by decide))
    refine R.iconst hc ic_1 dX7_number_47 ?_
    refine R.goto (tgt := 52) hc dX7_number_48 (by decide) ?_
    refine R.putG hc gf_X7_158 dX7_number_52 hR.1 (Nat.le_of_ble_eq_true rfl) (fun _ => rfl) (fun _ => rfl) (fun σ hX hE => ?_)
    have hR := hR.p2 hX hE
    have hF := hF.tr (hE.wid (by omega))
    exact flt σ _ pl _ _ _ hR h1 rfl (fun k k1 k2 => by rw [un, if_neg k2]) hF rfl
  subst z
  have hcl := chr_lt (i := sk tp tl pl) hU
  have hsk := sk_le (tp := tp) hpl
  simp only [stp, Bool.false_eq_true, if_false] at hc flt
  obtain ⟨b, hb⟩ : ∃ z, z = sk tp tl pl := ⟨_, rfl⟩
  refine R.aload_n (j := 0) (i := 0) hc rfl rfl dX7_number_11 ?_
  refine R.cVi hc m_X7_here lk_X7_162 dX7_number_12 (c_X7_here l d X n hR hT hU h0 h1 hpl) (hR.1) rfl rfl rfl (by omega) ⟨Nat.le_refl _, Nat.le_refl _⟩ (Nat.le_of_ble_eq_true rfl) (fun σ hX => ?_)
  obtain ⟨J, hR, j1, hJ, hE⟩ := hX
  have hF := hF.tr hE
  rw [← hb] at j1 hcl hsk ⊢
  have h1 : J 1 = nI b := j1
  have h2 : J 2 = b2 false := by rw [hJ 2 (by omega)]; exact h2
  have h0 : J 0 = nI tl := by rw [hJ 0 (by omega)]; exact h0
  refine R.istn3 hc dX7_number_15 (by decide) rfl ?_
  refine R.aload_n (j := 0) (i := 0) hc rfl rfl dX7_number_16 ?_
  refine R.gtV hc gf_X7_155_r dX7_number_17 hR.1 rfl (h1) ?_
  refine R.ist4 hc dX7_number_20 (by decide) rfl ?_
  refine R.iconst hc ic_0 dX7_number_22 ?_
  refine R.ist5 hc dX7_number_23 (by decide) rfl ?_
  refine R.aload_n (j := 0) (i := 0) hc rfl rfl dX7_number_25 ?_
  refine R.aload_n (j := 0) (i := 0) hc rfl rfl dX7_number_26 ?_
  refine R.gtV hc gf_X7_158_r dX7_number_27 hR.1 rfl (h2) ?_
  refine R.ifB_ne (tgt := 47) hc dX7_number_30 (by decide) (fun z => absurd z (by decide)) (fun _ => ?_)
  refine R.iload_n (j := 3) (i := 3) hc rfl rfl dX7_number_33 ?_
  refine R.i2l hc dX7_number_34 ?_
  refine R.ldc2 hc kn_X7_169 dX7_number_35 ?_
  refine R.ldc2 hc kn_X7_171 dX7_number_38 ?_
  refine R.cSr hc m_X7_in lk_X7_59 dX7_number_41 (c_X7_in l d X n _ _ _) rfl rfl (by omega) ⟨Nat.le_refl _, Nat.le_refl _⟩ (Nat.le_of_ble_eq_true rfl) ?_
  rw [inL_R (by decide) (by decide), dig49 _ (by omega)]
  refine R.ifB_ne (tgt := 51) hc dX7_number_44 (by decide) (fun z => ?_) (fun z => ?_)
  rotate_left
  · have z := of_decide_eq_false z
    refine R.iconst hc ic_1 dX7_number_47 ?_
    refine R.goto (tgt := 52) hc dX7_number_48 (by decide) ?_
    refine R.putG hc gf_X7_158 dX7_number_52 hR.1 (Nat.le_of_ble_eq_true rfl) (fun _ => rfl) (fun _ => rfl) (fun σ hX hE => ?_)
    have hR := hR.p2 hX hE
    have hF := hF.tr (hE.wid (by omega))
    refine flt σ _ b _ _ _ hR h1 rfl (fun k k1 k2 => by rw [un, if_neg k2]; exact hJ k k1) hF ?_
    unfold numP dgt
    rw [← hb, if_neg]
    rintro ⟨y1, y2⟩
    unfold chr at z
    rw [if_pos y1] at z
    exact z y2
  have z := of_decide_eq_true z
  have hbt : b < tl := by
    unfold chr at z
    split at z
    · assumption
    · omega
  have ec : chr tp tl b = tp b := by unfold chr; rw [if_pos hbt]
  rw [ec] at z hcl ⊢
  refine R.iconst hc ic_0 dX7_number_51 ?_
  refine R.putG hc gf_X7_158 dX7_number_52 hR.1 (Nat.le_of_ble_eq_true rfl) (fun _ => rfl) (fun _ => rfl) (fun σ hX hE => ?_)
  have hR := hR.p2 hX hE
  have hF := hF.tr (hE.wid (by omega))
  have h1 : un J 2 (nI 0) 1 = nI b := h1
  have h2 : un J 2 (nI 0) 2 = b2 false := rfl
  have h0 : un J 2 (nI 0) 0 = nI tl := h0
  have hJ : ∀ k, k ≠ 1 → k ≠ 2 → un J 2 (nI 0) k = I k := fun k k1 k2 => by rw [un, if_neg k2]; exact hJ k k1
  obtain ⟨J, hJJ⟩ : ∃ z, z = un J 2 (nI 0) := ⟨_, rfl⟩
  rw [← hJJ] at h1 h2 h0 hJ hR
  have fin : ∀ (σ : Wd) (J : Nat → Int32) (e v : Nat), RW σ A L J → J 1 = nI e → J 2 = b2 false → (∀ k, k ≠ 1 → k ≠ 2 → J k = I k) → Eqo 42 17 σ0 σ → v < 1000 → numP tp tl lo hi pl = chkP lo hi b v e → R cx 0 0 n σ 139 [some (.ref 42), some (.int (nI lo)), some (.int (nI hi)), some (.int (nI (tp b))), some (.int (nI b)), some (.int (nI v))] [] := by
    intro σ J e v hR h1 h2 hJ hF hv hr
    rw [hr, chkP] at hc
    refine R.aload_n (j := 0) (i := 0) hc rfl rfl dX7_number_139 ?_
    refine R.gtV hc gf_X7_158_r dX7_number_140 hR.1 rfl (h2) ?_
    refine R.ifB_ne (tgt := 170) hc dX7_number_143 (by decide) (fun z => absurd z (by decide)) (fun _ => ?_)
    refine R.iload (i := 5) hc rfl dX7_number_146 ?_
    refine R.i2l hc dX7_number_148 ?_
    refine R.iload_n (j := 1) (i := 1) hc rfl rfl dX7_number_149 ?_
    refine R.i2l hc dX7_number_150 ?_
    refine R.iload_n (j := 2) (i := 2) hc rfl rfl dX7_number_151 ?_
    refine R.i2l hc dX7_number_152 ?_
    refine R.cSr hc m_X7_in lk_X7_59 dX7_number_153 (c_X7_in l d X n _ _ _) rfl rfl (by omega) ⟨Nat.le_refl _, Nat.le_refl _⟩ (Nat.le_of_ble_eq_true rfl) ?_
    rw [nI_l (show lo < 2 ^ 31 by omega), nI_l (show hi < 2 ^ 31 by omega), inL_R (by omega) (by omega), inR_n (by omega) (by omega) (by omega)]
    refine R.ifB_ne (tgt := 170) hc dX7_number_156 (by decide) (fun u => ?_) (fun u => ?_)
    · have u := of_decide_eq_true u
      rw [if_neg (by omega)] at hc
      refine R.iload (i := 5) hc rfl dX7_number_170 ?_
      exact R.iret hc rfl dX7_number_172 ⟨rfl, rfl, J, hR, h1, h2, hJ, hF⟩
    · have u := of_decide_eq_false u
      rw [if_pos (by omega)] at hc
      refine R.aload_n (j := 0) (i := 0) hc rfl rfl dX7_number_159 ?_
      refine R.iconst hc ic_1 dX7_number_160 ?_
      refine R.putG hc gf_X7_158 dX7_number_161 hR.1 (Nat.le_of_ble_eq_true rfl) (fun _ => rfl) (fun _ => rfl) (fun σ hX hE => ?_)
      have hR := hR.p2 hX hE
      have hF := hF.tr (hE.wid (by omega))
      refine R.aload_n (j := 0) (i := 0) hc rfl rfl dX7_number_164 ?_
      refine R.iload (i := 4) hc rfl dX7_number_165 ?_
      refine R.putG hc gf_X7_155 dX7_number_167 hR.1 (Nat.le_of_ble_eq_true rfl) (fun _ => rfl) (fun _ => rfl) (fun σ hX hE => ?_)
      have hR := hR.p1 hX hE
      have hF := hF.tr (hE.wid (by omega))
      refine R.iload (i := 5) hc rfl dX7_number_170 ?_
      exact R.iret hc rfl dX7_number_172 ⟨rfl, ⟨_, rfl⟩, _, hR, rfl, rfl, fun k k1 k2 => by rw [un, if_neg k1, un, if_neg k2]; exact hJ k k1 k2, hF⟩
  refine R.aload_n (j := 0) (i := 0) hc rfl rfl dX7_number_55 ?_
  refine R.gtV hc gf_X7_158_r dX7_number_56 hR.1 rfl (h2) ?_
  refine R.ifB_ne (tgt := 139) hc dX7_number_59 (by decide) (fun z => absurd z (by decide)) (fun _ => ?_)
  refine R.aload_n (j := 0) (i := 0) hc rfl rfl dX7_number_62 ?_
  refine R.gtV hc gf_X7_155_r dX7_number_63 hR.1 rfl (h1) ?_
  refine R.aload_n (j := 0) (i := 0) hc rfl rfl dX7_number_66 ?_
  refine R.gtV hc gf_X7_152_r dX7_number_67 hR.1 rfl (h0) ?_
  refine R.icmpN_ge (tgt := 139) hc dX7_number_70 (by decide) (by omega) (by omega) (fun y => absurd y (by omega)) (fun _ => ?_)
  refine R.aload_n (j := 0) (i := 0) hc rfl rfl dX7_number_73 ?_
  refine R.gtV hc gf_X7_155_r dX7_number_74 hR.1 rfl (h1) ?_
  refine R.iload (i := 4) hc rfl dX7_number_77 ?_
  first | refine R.isubN hc (by omega) dX7_number_79 ?_ | refine R.isub hc dX7_number_79 ?_
  refine R.iconst hc ic_2 dX7_number_80 ?_
  refine R.icmpN_ge (tgt := 139) hc dX7_number_81 (by decide) (by omega) (by omega) (fun y => absurd y (by omega)) (fun _ => ?_)
  refine R.aload_n (j := 0) (i := 0) hc rfl rfl dX7_number_84 ?_
  refine R.get hc gf_X7_16_r dX7_number_85 (hR.1) rfl ?_
  refine R.aload_n (j := 0) (i := 0) hc rfl rfl dX7_number_88 ?_
  refine R.gtV hc gf_X7_155_r dX7_number_89 hR.1 rfl (h1) ?_
  refine R.ialdV hc hR.g2 (by omega) (by decide) dX7_number_92 (hT b hbt) ?_
  refine R.i2l hc dX7_number_93 ?_
  refine R.ldc2 hc kn_X7_169 dX7_number_94 ?_
  refine R.ldc2 hc kn_X7_171 dX7_number_97 ?_
  refine R.cSr hc m_X7_in lk_X7_59 dX7_number_100 (c_X7_in l d X n _ _ _) rfl rfl (by omega) ⟨Nat.le_refl _, Nat.le_refl _⟩ (Nat.le_of_ble_eq_true rfl) ?_
  rw [inL_R (by decide) (by decide), dig49 _ (by omega)]
  refine R.ifB_eq (tgt := 139) hc dX7_number_103 (by decide) (fun y => absurd (of_decide_eq_false y) (fun w => w z)) (fun _ => ?_)
  refine R.bipush hc bp_10 dX7_number_106 ?_
  refine R.iload (i := 5) hc rfl dX7_number_108 ?_
  first | refine R.imulN hc dX7_number_110 ?_ | refine R.imul hc dX7_number_110 ?_
  refine R.aload_n (j := 0) (i := 0) hc rfl rfl dX7_number_111 ?_
  refine R.get hc gf_X7_16_r dX7_number_112 (hR.1) rfl ?_
  refine R.aload_n (j := 0) (i := 0) hc rfl rfl dX7_number_115 ?_
  refine R.gtV hc gf_X7_155_r dX7_number_116 hR.1 rfl (h1) ?_
  refine R.ialdV hc hR.g2 (by omega) (by decide) dX7_number_119 (hT b hbt) ?_
  first | refine R.iaddN hc dX7_number_120 ?_ | refine R.iadd hc dX7_number_120 ?_
  refine R.bipush hc bp_48 dX7_number_121 ?_
  refine R.isub hc dX7_number_123 ?_
  rw [num48 0 (by omega) _ (by omega) z.1, show 10 * 0 + (tp b - 48) = tp b - 48 by omega]
  refine R.ist5 hc dX7_number_124 (by decide) rfl ?_
  refine R.aload_n (j := 0) (i := 0) hc rfl rfl dX7_number_126 ?_
  refine R.dup hc rfl dX7_number_127 ?_
  refine R.gtV hc gf_X7_155_r dX7_number_128 hR.1 rfl (h1) ?_
  refine R.iconst hc ic_1 dX7_number_131 ?_
  first | refine R.iaddN hc dX7_number_132 ?_ | refine R.iadd hc dX7_number_132 ?_
  refine R.putG hc gf_X7_155 dX7_number_133 hR.1 (Nat.le_of_ble_eq_true rfl) (fun _ => rfl) (fun _ => rfl) (fun σ hX hE => ?_)
  have hR := hR.p1 hX hE
  have hF := hF.tr (hE.wid (by omega))
  refine R.goto (tgt := 55) hc dX7_number_136 (by decide) ?_
  have h1 : un J 1 (nI (b + 1)) 1 = nI (b + 1) := rfl
  have h2 : un J 1 (nI (b + 1)) 2 = b2 false := h2
  have h0 : un J 1 (nI (b + 1)) 0 = nI tl := h0
  have hJ : ∀ k, k ≠ 1 → k ≠ 2 → un J 1 (nI (b + 1)) k = I k := fun k k1 k2 => by rw [un, if_neg k1]; exact hJ k k1 k2
  obtain ⟨J, hJJ⟩ : ∃ z, z = un J 1 (nI (b + 1)) := ⟨_, rfl⟩
  rw [← hJJ] at h1 h2 h0 hJ hR
  have hd1 : dgt tp tl b = tp b - 48 + 1 := by unfold dgt; rw [if_pos ⟨hbt, z⟩]
  refine R.aload_n (j := 0) (i := 0) hc rfl rfl dX7_number_55 ?_
  refine R.gtV hc gf_X7_158_r dX7_number_56 hR.1 rfl (h2) ?_
  refine R.ifB_ne (tgt := 139) hc dX7_number_59 (by decide) (fun z => absurd z (by decide)) (fun _ => ?_)
  refine R.aload_n (j := 0) (i := 0) hc rfl rfl dX7_number_62 ?_
  refine R.gtV hc gf_X7_155_r dX7_number_63 hR.1 rfl (h1) ?_
  refine R.aload_n (j := 0) (i := 0) hc rfl rfl dX7_number_66 ?_
  refine R.gtV hc gf_X7_152_r dX7_number_67 hR.1 rfl (h0) ?_
  refine R.icmpN_ge (tgt := 139) hc dX7_number_70 (by decide) (by omega) (by omega) (fun y => ?_) (fun y => ?_)
  · refine fin σ J (b + 1) (tp b - 48) hR h1 h2 hJ hF (by omega) ?_
    unfold numP
    have hd2 : dgt tp tl (b + 1) = 0 := by unfold dgt; rw [if_neg (by omega)]
    rw [← hb, hd1, hd2]
  obtain ⟨c1, c2⟩ := hU.2 (b + 1) (by omega)
  refine R.aload_n (j := 0) (i := 0) hc rfl rfl dX7_number_73 ?_
  refine R.gtV hc gf_X7_155_r dX7_number_74 hR.1 rfl (h1) ?_
  refine R.iload (i := 4) hc rfl dX7_number_77 ?_
  first | refine R.isubN hc (by omega) dX7_number_79 ?_ | refine R.isub hc dX7_number_79 ?_
  refine R.iconst hc ic_2 dX7_number_80 ?_
  refine R.icmpN_ge (tgt := 139) hc dX7_number_81 (by decide) (by omega) (by omega) (fun y => absurd y (by omega)) (fun _ => ?_)
  refine R.aload_n (j := 0) (i := 0) hc rfl rfl dX7_number_84 ?_
  refine R.get hc gf_X7_16_r dX7_number_85 (hR.1) rfl ?_
  refine R.aload_n (j := 0) (i := 0) hc rfl rfl dX7_number_88 ?_
  refine R.gtV hc gf_X7_155_r dX7_number_89 hR.1 rfl (h1) ?_
  refine R.ialdV hc hR.g2 (by omega) (by decide) dX7_number_92 (hT (b + 1) (by omega)) ?_
  refine R.i2l hc dX7_number_93 ?_
  refine R.ldc2 hc kn_X7_169 dX7_number_94 ?_
  refine R.ldc2 hc kn_X7_171 dX7_number_97 ?_
  refine R.cSr hc m_X7_in lk_X7_59 dX7_number_100 (c_X7_in l d X n _ _ _) rfl rfl (by omega) ⟨Nat.le_refl _, Nat.le_refl _⟩ (Nat.le_of_ble_eq_true rfl) ?_
  rw [inL_R (by decide) (by decide), dig49 _ (by omega)]
  refine R.ifB_eq (tgt := 139) hc dX7_number_103 (by decide) (fun x => ?_) (fun x => ?_)
  · have x := of_decide_eq_false x
    refine fin σ J (b + 1) (tp b - 48) hR h1 h2 hJ hF (by omega) ?_
    unfold numP
    have hd2 : dgt tp tl (b + 1) = 0 := by unfold dgt; rw [if_neg (fun w => x w.2)]
    rw [← hb, hd1, hd2]
  have x := of_decide_eq_true x
  have hd2 : dgt tp tl (b + 1) = tp (b + 1) - 48 + 1 := by unfold dgt; rw [if_pos ⟨by omega, x⟩]
  refine R.bipush hc bp_10 dX7_number_106 ?_
  refine R.iload (i := 5) hc rfl dX7_number_108 ?_
  first | refine R.imulN hc dX7_number_110 ?_ | refine R.imul hc dX7_number_110 ?_
  refine R.aload_n (j := 0) (i := 0) hc rfl rfl dX7_number_111 ?_
  refine R.get hc gf_X7_16_r dX7_number_112 (hR.1) rfl ?_
  refine R.aload_n (j := 0) (i := 0) hc rfl rfl dX7_number_115 ?_
  refine R.gtV hc gf_X7_155_r dX7_number_116 hR.1 rfl (h1) ?_
  refine R.ialdV hc hR.g2 (by omega) (by decide) dX7_number_119 (hT (b + 1) (by omega)) ?_
  first | refine R.iaddN hc dX7_number_120 ?_ | refine R.iadd hc dX7_number_120 ?_
  refine R.bipush hc bp_48 dX7_number_121 ?_
  refine R.isub hc dX7_number_123 ?_
  rw [num48 _ (by omega) _ (by omega) x.1]
  refine R.ist5 hc dX7_number_124 (by decide) rfl ?_
  refine R.aload_n (j := 0) (i := 0) hc rfl rfl dX7_number_126 ?_
  refine R.dup hc rfl dX7_number_127 ?_
  refine R.gtV hc gf_X7_155_r dX7_number_128 hR.1 rfl (h1) ?_
  refine R.iconst hc ic_1 dX7_number_131 ?_
  first | refine R.iaddN hc dX7_number_132 ?_ | refine R.iadd hc dX7_number_132 ?_
  refine R.putG hc gf_X7_155 dX7_number_133 hR.1 (Nat.le_of_ble_eq_true rfl) (fun _ => rfl) (fun _ => rfl) (fun σ hX hE => ?_)
  have hR := hR.p1 hX hE
  have hF := hF.tr (hE.wid (by omega))
  refine R.goto (tgt := 55) hc dX7_number_136 (by decide) ?_
  have h1 : un J 1 (nI (b + 1 + 1)) 1 = nI (b + 2) := rfl
  have h2 : un J 1 (nI (b + 1 + 1)) 2 = b2 false := h2
  have h0 : un J 1 (nI (b + 1 + 1)) 0 = nI tl := h0
  have hJ : ∀ k, k ≠ 1 → k ≠ 2 → un J 1 (nI (b + 1 + 1)) k = I k := fun k k1 k2 => by rw [un, if_neg k1]; exact hJ k k1 k2
  have lst := fin σ _ (b + 2) (10 * (tp b - 48) + (tp (b + 1) - 48)) hR h1 h2 hJ hF (by omega) (by unfold numP; rw [← hb, hd1, hd2])
  refine R.aload_n (j := 0) (i := 0) hc rfl rfl dX7_number_55 ?_
  refine R.gtV hc gf_X7_158_r dX7_number_56 hR.1 rfl (h2) ?_
  refine R.ifB_ne (tgt := 139) hc dX7_number_59 (by decide) (fun z => absurd z (by decide)) (fun _ => ?_)
  refine R.aload_n (j := 0) (i := 0) hc rfl rfl dX7_number_62 ?_
  refine R.gtV hc gf_X7_155_r dX7_number_63 hR.1 rfl (h1) ?_
  refine R.aload_n (j := 0) (i := 0) hc rfl rfl dX7_number_66 ?_
  refine R.gtV hc gf_X7_152_r dX7_number_67 hR.1 rfl (h0) ?_
  refine R.icmpN_ge (tgt := 139) hc dX7_number_70 (by decide) (by omega) (by omega) (fun _ => lst) (fun _ => ?_)
  refine R.aload_n (j := 0) (i := 0) hc rfl rfl dX7_number_73 ?_
  refine R.gtV hc gf_X7_155_r dX7_number_74 hR.1 rfl (h1) ?_
  refine R.iload (i := 4) hc rfl dX7_number_77 ?_
  first | refine R.isubN hc (by omega) dX7_number_79 ?_ | refine R.isub hc dX7_number_79 ?_
  refine R.iconst hc ic_2 dX7_number_80 ?_
  refine R.icmpN_ge (tgt := 139) hc dX7_number_81 (by decide) (by omega) (by omega) (fun _ => lst) (fun y => absurd (by omega) y)
set_option maxHeartbeats 4000000 in
set_option maxRecDepth 100000 in
theorem c_X7_numberBehind (l : Launch) (d : Nat) (X : Nat × (Nat → Int32)) (n : Nat) {σ : Wd} {A : Nat → Nat → Int32} {L : Nat → Nat → Int64} {I : Nat → Int32} (hR : RW σ A L I) {tp : Nat → Nat} {tl pl : Nat} (hT : ∀ j, j < tl → A 2 j = nI (tp j)) (hU : WT tp tl) (h0 : I 0 = nI tl) (h1 : I 1 = nI pl) (hpl : pl ≤ tl) {f : Bool} (h2 : I 2 = b2 f) {c lo hi ot : Nat} (hc0 : 0 < c) (hc1 : c < 127) (hlo : lo ≤ 1000) (hhi : hi ≤ 1000) : CN l yX7_numberBehind cX7_numberBehind 5 (some .int) ((d + 2)) X n [.ref 42, .int (nI c), .int (nI lo), .int (nI hi), .int (nI ot)] σ (fun v σ' => PO σ σ' A L I v (stp f (behP tp tl c lo hi ot) pl)) := by
  refine CN.of (by decide) [some (.ref 42), some (.int (nI c)), some (.int (nI lo)), some (.int (nI hi)), some (.int (nI ot))] (fun _ => Nat.le_of_ble_eq_true rfl) (fun _ => rfl) (fun cx hc => ?_)
  have hU1 := hU.1
  have hF : Eqo 42 17 σ σ := Eqo.rf
  have hcl := chr_lt (i := sk tp tl pl) hU
  have hsk := sk_le (tp := tp) hpl
  refine R.aload_n (j := 0) (i := 0) hc rfl rfl dX7_numberBehind_0 ?_
  refine R.gtV hc gf_X7_158_r dX7_numberBehind_1 hR.1 rfl (h2) ?_
  refine R.ifB_ne (tgt := 15) hc dX7_numberBehind_4 (by decide) (fun z => ?_) (fun z => ?_)
  · subst z
    refine R.iload (i := 4) hc rfl dX7_numberBehind_15 ?_
    exact R.iret hc rfl dX7_numberBehind_17 ⟨rfl, ⟨_, rfl⟩, I, hR, h1, h2, fun _ _ _ => rfl, hF⟩
  subst z
  simp only [stp, Bool.false_eq_true, if_false] at hc
  have htk : takeB tp tl c pl = decide (chr tp tl (sk tp tl pl) = c) := by
    unfold takeB chr
    refine decide_eq_decide.mpr ?_
    by_cases y : sk tp tl pl < tl
    · rw [if_pos y]; exact ⟨fun h => h.2, fun h => ⟨y, h⟩⟩
    · rw [if_neg y]; exact ⟨fun h => absurd h.1 y, fun h => absurd h (by omega)⟩
  rw [behP, htk] at hc
  refine R.aload_n (j := 0) (i := 0) hc rfl rfl dX7_numberBehind_7 ?_
  refine R.cVi hc m_X7_here lk_X7_162 dX7_numberBehind_8 (c_X7_here l (d + 1) X n hR hT hU h0 h1 hpl) (hR.1) rfl rfl rfl (by omega) ⟨Nat.le_refl _, Nat.le_refl _⟩ (Nat.le_of_ble_eq_true rfl) (fun σ hX => ?_)
  obtain ⟨J, hR, j1, hJ, hE⟩ := hX
  have hF := hF.tr hE
  have h2 : J 2 = b2 false := by rw [hJ 2 (by omega)]; exact h2
  have h1 : J 1 = nI (sk tp tl pl) := j1
  have h0 : J 0 = nI tl := by rw [hJ 0 (by omega)]; exact h0
  refine R.iload_n (j := 1) (i := 1) hc rfl rfl dX7_numberBehind_11 ?_
  refine R.icmpN_eq (tgt := 18) hc dX7_numberBehind_12 (by decide) (by omega) (by omega) (fun y => ?_) (fun y => ?_)
  rotate_left
  · rw [decide_eq_false y, if_neg (by decide)] at hc
    refine R.iload (i := 4) hc rfl dX7_numberBehind_15 ?_
    exact R.iret hc rfl dX7_numberBehind_17 ⟨rfl, rfl, J, hR, h1, h2, fun k k1 _ => hJ k k1, hF⟩
  rw [decide_eq_true y, if_pos rfl] at hc
  have hst : sk tp tl pl < tl := by
    unfold chr at y
    split at y
    · assumption
    · omega
  refine R.aload_n (j := 0) (i := 0) hc rfl rfl dX7_numberBehind_18 ?_
  refine R.dup hc rfl dX7_numberBehind_19 ?_
  refine R.gtV hc gf_X7_155_r dX7_numberBehind_20 hR.1 rfl (h1) ?_
  refine R.iconst hc ic_1 dX7_numberBehind_23 ?_
  first | refine R.iaddN hc dX7_numberBehind_24 ?_ | refine R.iadd hc dX7_numberBehind_24 ?_
  refine R.putG hc gf_X7_155 dX7_numberBehind_25 hR.1 (Nat.le_of_ble_eq_true rfl) (fun _ => rfl) (fun _ => rfl) (fun σ hX hE => ?_)
  have hR := hR.p1 hX hE
  have hF := hF.tr (hE.wid (by omega))
  have h0 : un J 1 (nI (sk tp tl pl + 1)) 0 = nI tl := h0
  have h2 : un J 1 (nI (sk tp tl pl + 1)) 2 = b2 false := h2
  have h1 : un J 1 (nI (sk tp tl pl + 1)) 1 = nI (sk tp tl pl + 1) := rfl
  refine R.aload_n (j := 0) (i := 0) hc rfl rfl dX7_numberBehind_28 ?_
  refine R.iload_n (j := 2) (i := 2) hc rfl rfl dX7_numberBehind_29 ?_
  refine R.iload_n (j := 3) (i := 3) hc rfl rfl dX7_numberBehind_30 ?_
  refine R.cVg hc m_X7_number lk_X7_173 dX7_numberBehind_31 (c_X7_number l d X n hR hT hU h0 h1 (by omega) h2 hlo hhi) (hR.1) rfl rfl rfl (by omega) ⟨Nat.le_refl _, Nat.le_refl _⟩ (Nat.le_of_ble_eq_true rfl) (fun v σ hX => ?_)
  obtain ⟨x, rfl⟩ := hX.v
  have hp := hX.tr (I := I) hF (fun k k1 k2 => by rw [un, if_neg k1]; exact hJ k k1)
  exact R.iret hc rfl dX7_numberBehind_34 ⟨rfl, hp⟩
