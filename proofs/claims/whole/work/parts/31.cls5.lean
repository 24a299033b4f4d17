/-- how many parts fall on just these being driven through -/
def wgt (a : SA) (c D : Nat) : Nat → Nat
  | 0 => 1
  | p + 1 => if dryB a p then (if D.testBit p then 0 else wgt a c D p) else wgt a c D p * (if D.testBit p then c else 10 - c)
def wAll (a : SA) : Nat → Nat
  | 0 => 1
  | p + 1 => wAll a p * (if dryB a p then 1 else 10)
/-- behind the carts -/
def crtA (a : SA) (D : Nat) : Nat → SA
  | 0 => a
  | p + 1 => if D.testBit p then a2 (crtA a D p) 2 p (crtA a D p 2 p / 2) else crtA a D p
def abv (a : SA) (np nq hr c q : Nat) : Nat → Nat
  | 0 => 0
  | D + 1 => abv a np nq hr c q D + (if hasC (hourS (crtA a D np) np nq hr) q then wgt a c D np else 0)
theorem wgt_le {a : SA} {c D : Nat} (hc : c ≤ 10) : ∀ p, wgt a c D p ≤ 10 ^ p := by
  intro p
  induction p with
  | zero => exact Nat.le_refl _
  | succ p ih =>
    rw [wgt, Nat.pow_succ]
    split
    · split <;> omega
    · refine Nat.mul_le_mul ih ?_
      split <;> omega
theorem wAll_le {a : SA} : ∀ p, wAll a p ≤ 10 ^ p := by
  intro p
  induction p with
  | zero => exact Nat.le_refl _
  | succ p ih =>
    rw [wAll, Nat.pow_succ]
    refine Nat.mul_le_mul ih ?_
    split <;> omega
theorem wAll_pos {a : SA} : ∀ p, 0 < wAll a p := by
  intro p
  induction p with
  | zero => exact Nat.one_pos
  | succ p ih =>
    rw [wAll]
    refine Nat.mul_pos ih ?_
    split <;> omega
theorem p10_7 {p : Nat} (h : p ≤ 7) : 10 ^ p ≤ 10000000 := Nat.le_trans (Nat.pow_le_pow_right (by omega) h) (by decide)
theorem abv_le {a : SA} {np nq hr c q : Nat} (hc : c ≤ 10) (hp : np ≤ 7) : ∀ D, abv a np nq hr c q D ≤ D * 10000000 := by
  intro D
  induction D with
  | zero => exact Nat.zero_le _
  | succ D ih =>
    rw [abv, Nat.succ_mul]
    have h1 := Nat.le_trans (wgt_le (a := a) (D := D) hc np) (p10_7 hp)
    split
    · exact Nat.add_le_add ih h1
    · exact Nat.add_le_add ih (Nat.zero_le _)
theorem WF_crt {a : SA} {np nq D : Nat} (hW : WF a np nq) : ∀ p, WF (crtA a D p) np nq := by
  intro p
  induction p with
  | zero => exact hW
  | succ p ih =>
    rw [crtA]
    split
    · exact WF_half ih
    · exact ih
/-- Euclid's steps, at most j -/
def cdF : Nat → Nat → Nat → Nat
  | 0, x, _ => x
  | j + 1, x, y => if y = 0 then x else cdF j y (x % y)
theorem cdF_gcd : ∀ k j x y, y < 2 ^ k → 2 * k ≤ j → cdF j x y = Nat.gcd x y := by
  intro k
  induction k with
  | zero =>
    intro j x y hy _
    have : y = 0 := by rw [Nat.pow_zero] at hy; omega
    subst this
    cases j with
    | zero => rw [cdF, Nat.gcd_zero_right]
    | succ j => rw [cdF, if_pos rfl, Nat.gcd_zero_right]
  | succ k ih =>
    intro j x y hy hj
    obtain ⟨j, rfl⟩ : ∃ i, j = i + 2 := ⟨j - 2, by omega⟩
    rw [cdF]
    split
    · rename_i h; rw [h, Nat.gcd_zero_right]
    · rename_i h
      rw [cdF]
      have hg : Nat.gcd x y = Nat.gcd y (x % y) := by rw [Nat.gcd_comm x y, Nat.gcd_rec y x, Nat.gcd_comm]
      split
      · rename_i h2; rw [hg, h2, Nat.gcd_zero_right]
      · rename_i h2
        have h3 := Nat.mod_lt x (Nat.pos_of_ne_zero h)
        have h4 := Nat.mod_lt y (Nat.pos_of_ne_zero h2)
        have h5 : y % (x % y) < 2 ^ k := by
          rw [Nat.pow_succ] at hy
          rcases Nat.lt_or_ge (x % y) (2 ^ k) with h6 | h6
          · omega
          · rw [Nat.mod_eq_sub_mod (by omega), Nat.mod_eq_of_lt (by omega)]
            omega
        rw [ih j _ _ h5 (by omega), hg, Nat.gcd_comm y (x % y), Nat.gcd_rec (x % y) y, Nat.gcd_comm]
def crtS (a : SA) (np nq hr q c w : Nat) : Nat := (if w = 0 then abv a np nq hr c q (2 ^ np) else wAll a np) / Nat.gcd (abv a np nq hr c q (2 ^ np)) (wAll a np)
def s_carts (a : SA) (np nq hr : Nat) (q c w : Int32) : Int32 := if inI q nq && inR c 0 10 && inR w 0 1 then nI (crtS a np nq hr (tN q) (tN c) (tN w)) else -1

set_option maxHeartbeats 4000000 in
set_option maxRecDepth 100000 in
theorem c_X6_weightOf (l : Launch) (d : Nat) (X : Nat × (Nat → Int32)) (n : Nat) {σ : Wd} {a : SA} {np nq hr dr : Nat} {hs : List SN} {im : IM} {tp : Nat → Nat} {tl : Nat} {ln sz : Nat → Nat} {it : Nat → Nat → Int64} (hC : CA σ a np nq hr dr hs im tp tl ln sz it) (hI : WI a np nq hr dr hs im tp tl ln sz) {D c : Nat} (hD9 : D < 128) (hc10 : c ≤ 10) : CN l yX6_weightOf cX6_weightOf 6 (some .int) ((d + 1)) X n [.ref 0, .int (nI D), .int (nI c)] σ (fun v σ' => v = some (.int (nI (wgt a c D np))) ∧ σ' = σ) := by
  refine CN.of (by decide) [some (.ref 0), some (.int (nI D)), some (.int (nI c)), none, none, none] (fun _ => Nat.le_of_ble_eq_true rfl) (fun _ => rfl) (fun cx hc => ?_)
  obtain ⟨da, dp, dq, dh, dd, hD⟩ := hC.cd
  obtain ⟨hW, hh, hdr, hwh, hwi, hU, hV⟩ := hI
  have hW1 := hW.1
  have hW2 := hW.2.1
  have hF : Eqo 0 42 σ σ := Eqo.rf
  refine R.iconst hc ic_1 dX6_weightOf_0 ?_
  refine R.istn3 hc dX6_weightOf_1 (by decide) rfl ?_
  refine R.iconst hc ic_0 dX6_weightOf_2 ?_
  refine R.ist4 hc dX6_weightOf_3 (by decide) rfl ?_
  refine rl_down (P := fun p => R cx 0 0 n σ 5 [some (.ref 0), some (.int (nI D)), some (.int (nI c)), some (.int (nI (wgt a c D p))), some (.int (nI p)), none] []) np ?_ (fun p hp ih => ?_) 0 (Nat.zero_le _)
  · refine R.iload (i := 4) hc rfl dX6_weightOf_5 ?_
    refine R.aload_n (j := 0) (i := 0) hc rfl rfl dX6_weightOf_7 ?_
    refine R.get hc gf_X6_10_r dX6_weightOf_8 (hD.1) rfl ?_
    refine R.get hc gf_X6_144_r dX6_weightOf_11 (hD.2.1.obj) rfl ?_
    refine R.icmpN_ge (tgt := 81) hc dX6_weightOf_14 (by decide) (by omega) (by omega) (fun _ => ?_) (fun q => absurd (Nat.le_refl _) q)
    refine R.iload_n (j := 3) (i := 3) hc rfl rfl dX6_weightOf_81 ?_
    exact R.iret hc rfl dX6_weightOf_82 ⟨rfl, rfl, rfl⟩
  · have rest : ∀ bt : Bool, D.testBit p = bt → R cx 0 0 n σ 33 [some (.ref 0), some (.int (nI D)), some (.int (nI c)), some (.int (nI (wgt a c D p))), some (.int (nI p)), some (.int (b2 bt))] [] := by
      intro bt hbt
      rw [wgt, hbt] at ih
      refine R.aload_n (j := 0) (i := 0) hc rfl rfl dX6_weightOf_33 ?_
      refine R.get hc gf_X6_10_r dX6_weightOf_34 (hD.1) rfl ?_
      refine R.iload (i := 4) hc rfl dX6_weightOf_37 ?_
      refine R.cVr hc m_X4_isDry lk_X6_176 dX6_weightOf_39 (c_X4_isDry l d X n hD.2.1 hW (p := p) (by omega)) (hD.2.1.obj) rfl rfl rfl (by omega) ⟨Nat.le_refl _, Nat.le_refl _⟩ (Nat.le_of_ble_eq_true rfl) ?_
      refine R.ifB_eq (tgt := 59) hc dX6_weightOf_42 (by decide) (fun z => ?_) (fun z => ?_)
      · rw [z, if_neg (by decide)] at ih
        refine R.iload_n (j := 3) (i := 3) hc rfl rfl dX6_weightOf_59 ?_
        refine R.iload (i := 5) hc rfl dX6_weightOf_60 ?_
        refine R.ifB_eq (tgt := 69) hc dX6_weightOf_62 (by decide) (fun y => ?_) (fun y => ?_)
        · subst y
          refine R.bipush hc bp_10 dX6_weightOf_69 ?_
          refine R.iload_n (j := 2) (i := 2) hc rfl rfl dX6_weightOf_71 ?_
          first | refine R.isubN hc (by omega) dX6_weightOf_72 ?_ | refine R.isub hc dX6_weightOf_72 ?_
          first | refine R.imulN hc dX6_weightOf_73 ?_ | refine R.imul hc dX6_weightOf_73 ?_
          refine R.istn3 hc dX6_weightOf_74 (by decide) rfl ?_
          refine R.iinc4 hc dX6_weightOf_75 (iiN1 _) (by decide) rfl ?_
          refine R.goto (tgt := 5) hc dX6_weightOf_78 (by decide) ?_
          exact R.fg5 ih
        · subst y
          refine R.iload_n (j := 2) (i := 2) hc rfl rfl dX6_weightOf_65 ?_
          refine R.goto (tgt := 73) hc dX6_weightOf_66 (by decide) ?_
          first | refine R.imulN hc dX6_weightOf_73 ?_ | refine R.imul hc dX6_weightOf_73 ?_
          refine R.istn3 hc dX6_weightOf_74 (by decide) rfl ?_
          refine R.iinc4 hc dX6_weightOf_75 (iiN1 _) (by decide) rfl ?_
          refine R.goto (tgt := 5) hc dX6_weightOf_78 (by decide) ?_
          exact R.fg5 ih
      · rw [z, if_pos rfl] at ih
        refine R.iload (i := 5) hc rfl dX6_weightOf_45 ?_
        refine R.ifB_eq (tgt := 54) hc dX6_weightOf_47 (by decide) (fun y => ?_) (fun y => ?_)
        · subst y
          refine R.iload_n (j := 3) (i := 3) hc rfl rfl dX6_weightOf_54 ?_
          refine R.istn3 hc dX6_weightOf_55 (by decide) rfl ?_
          refine R.goto (tgt := 75) hc dX6_weightOf_56 (by decide) ?_
          refine R.iinc4 hc dX6_weightOf_75 (iiN1 _) (by decide) rfl ?_
          refine R.goto (tgt := 5) hc dX6_weightOf_78 (by decide) ?_
          exact R.fg5 ih
        · subst y
          refine R.iconst hc ic_0 dX6_weightOf_50 ?_
          refine R.goto (tgt := 55) hc dX6_weightOf_51 (by decide) ?_
          refine R.istn3 hc dX6_weightOf_55 (by decide) rfl ?_
          refine R.goto (tgt := 75) hc dX6_weightOf_56 (by decide) ?_
          refine R.iinc4 hc dX6_weightOf_75 (iiN1 _) (by decide) rfl ?_
          refine R.goto (tgt := 5) hc dX6_weightOf_78 (by decide) ?_
          exact R.fg5 ih
    refine R.iload (i := 4) hc rfl dX6_weightOf_5 ?_
    refine R.aload_n (j := 0) (i := 0) hc rfl rfl dX6_weightOf_7 ?_
    refine R.get hc gf_X6_10_r dX6_weightOf_8 (hD.1) rfl ?_
    refine R.get hc gf_X6_144_r dX6_weightOf_11 (hD.2.1.obj) rfl ?_
    refine R.icmpN_ge (tgt := 81) hc dX6_weightOf_14 (by decide) (by omega) (by omega) (fun q => absurd q (by omega)) (fun _ => ?_)
    refine R.iload_n (j := 1) (i := 1) hc rfl rfl dX6_weightOf_17 ?_
    refine R.iload (i := 4) hc rfl dX6_weightOf_18 ?_
    first | refine R.ishrN hc (by omega) (by omega) dX6_weightOf_20 ?_ | refine R.ishr hc dX6_weightOf_20 ?_
    refine R.iconst hc ic_1 dX6_weightOf_21 ?_
    first | refine R.iandN hc dX6_weightOf_22 ?_ | refine R.iand hc dX6_weightOf_22 ?_
    have h1 : D / 2 ^ p &&& 1 < 2 ^ 31 := Nat.lt_of_le_of_lt Nat.and_le_right (by decide)
    refine R.ifN_eq (tgt := 30) hc dX6_weightOf_23 (by decide) h1 (fun z => ?_) (fun z => ?_)
    · refine R.iconst hc ic_0 dX6_weightOf_30 ?_
      refine R.ist5 hc dX6_weightOf_31 (by decide) rfl ?_
      exact rest false (tbz.mp z)
    · refine R.iconst hc ic_1 dX6_weightOf_26 ?_
      refine R.goto (tgt := 31) hc dX6_weightOf_27 (by decide) ?_
      refine R.ist5 hc dX6_weightOf_31 (by decide) rfl ?_
      exact rest true (by cases y : D.testBit p; exact absurd (tbz.mpr y) z; rfl)
set_option maxHeartbeats 4000000 in
set_option maxRecDepth 100000 in
theorem c_X6_weightOfAll (l : Launch) (d : Nat) (X : Nat × (Nat → Int32)) (n : Nat) {σ : Wd} {a : SA} {np nq hr dr : Nat} {hs : List SN} {im : IM} {tp : Nat → Nat} {tl : Nat} {ln sz : Nat → Nat} {it : Nat → Nat → Int64} (hC : CA σ a np nq hr dr hs im tp tl ln sz it) (hI : WI a np nq hr dr hs im tp tl ln sz) : CN l yX6_weightOfAll cX6_weightOfAll 3 (some .int) ((d + 1)) X n [.ref 0] σ (fun v σ' => v = some (.int (nI (wAll a np))) ∧ σ' = σ) := by
  refine CN.of (by decide) [some (.ref 0), none, none] (fun _ => Nat.le_of_ble_eq_true rfl) (fun _ => rfl) (fun cx hc => ?_)
  obtain ⟨da, dp, dq, dh, dd, hD⟩ := hC.cd
  obtain ⟨hW, hh, hdr, hwh, hwi, hU, hV⟩ := hI
  have hW1 := hW.1
  have hW2 := hW.2.1
  have hF : Eqo 0 42 σ σ := Eqo.rf
  refine R.iconst hc ic_1 dX6_weightOfAll_0 ?_
  refine R.istn1 hc dX6_weightOfAll_1 (by decide) rfl ?_
  refine R.iconst hc ic_0 dX6_weightOfAll_2 ?_
  refine R.istn2 hc dX6_weightOfAll_3 (by decide) rfl ?_
  refine rl_down (P := fun p => R cx 0 0 n σ 4 [some (.ref 0), some (.int (nI (wAll a p))), some (.int (nI p))] []) np ?_ (fun p hp ih => ?_) 0 (Nat.zero_le _)
  · refine R.iload_n (j := 2) (i := 2) hc rfl rfl dX6_weightOfAll_4 ?_
    refine R.aload_n (j := 0) (i := 0) hc rfl rfl dX6_weightOfAll_5 ?_
    refine R.get hc gf_X6_10_r dX6_weightOfAll_6 (hD.1) rfl ?_
    refine R.get hc gf_X6_144_r dX6_weightOfAll_9 (hD.2.1.obj) rfl ?_
    refine R.icmpN_ge (tgt := 41) hc dX6_weightOfAll_12 (by decide) (by omega) (by omega) (fun _ => ?_) (fun q => absurd (Nat.le_refl _) q)
    refine R.iload_n (j := 1) (i := 1) hc rfl rfl dX6_weightOfAll_41 ?_
    exact R.iret hc rfl dX6_weightOfAll_42 ⟨rfl, rfl, rfl⟩
  · rw [wAll] at ih
    refine R.iload_n (j := 2) (i := 2) hc rfl rfl dX6_weightOfAll_4 ?_
    refine R.aload_n (j := 0) (i := 0) hc rfl rfl dX6_weightOfAll_5 ?_
    refine R.get hc gf_X6_10_r dX6_weightOfAll_6 (hD.1) rfl ?_
    refine R.get hc gf_X6_144_r dX6_weightOfAll_9 (hD.2.1.obj) rfl ?_
    refine R.icmpN_ge (tgt := 41) hc dX6_weightOfAll_12 (by decide) (by omega) (by omega) (fun q => absurd q (by omega)) (fun _ => ?_)
    refine R.iload_n (j := 1) (i := 1) hc rfl rfl dX6_weightOfAll_15 ?_
    refine R.aload_n (j := 0) (i := 0) hc rfl rfl dX6_weightOfAll_16 ?_
    refine R.get hc gf_X6_10_r dX6_weightOfAll_17 (hD.1) rfl ?_
    refine R.iload_n (j := 2) (i := 2) hc rfl rfl dX6_weightOfAll_20 ?_
    refine R.cVr hc m_X4_isDry lk_X6_176 dX6_weightOfAll_21 (c_X4_isDry l d X n hD.2.1 hW (p := p) (by omega)) (hD.2.1.obj) rfl rfl rfl (by omega) ⟨Nat.le_refl _, Nat.le_refl _⟩ (Nat.le_of_ble_eq_true rfl) ?_
    refine R.ifB_eq (tgt := 31) hc dX6_weightOfAll_24 (by decide) (fun z => ?_) (fun z => ?_)
    · rw [z, if_neg (by decide)] at ih
      refine R.bipush hc bp_10 dX6_weightOfAll_31 ?_
      first | refine R.imulN hc dX6_weightOfAll_33 ?_ | refine R.imul hc dX6_weightOfAll_33 ?_
      refine R.istn1 hc dX6_weightOfAll_34 (by decide) rfl ?_
      refine R.iinc2 hc dX6_weightOfAll_35 (iiN1 _) (by decide) rfl ?_
      refine R.goto (tgt := 4) hc dX6_weightOfAll_38 (by decide) ?_
      exact ih
    · rw [z, if_pos rfl] at ih
      refine R.iconst hc ic_1 dX6_weightOfAll_27 ?_
      refine R.goto (tgt := 33) hc dX6_weightOfAll_28 (by decide) ?_
      first | refine R.imulN hc dX6_weightOfAll_33 ?_ | refine R.imul hc dX6_weightOfAll_33 ?_
      refine R.istn1 hc dX6_weightOfAll_34 (by decide) rfl ?_
      refine R.iinc2 hc dX6_weightOfAll_35 (iiN1 _) (by decide) rfl ?_
      refine R.goto (tgt := 4) hc dX6_weightOfAll_38 (by decide) ?_
      exact ih
set_option maxHeartbeats 4000000 in
set_option maxRecDepth 100000 in
theorem c_X6_hasClaimedBehindCarts (l : Launch) (d : Nat) (X : Nat × (Nat → Int32)) (n : Nat) {σ : Wd} {a : SA} {np nq hr dr : Nat} {hs : List SN} {im : IM} {tp : Nat → Nat} {tl : Nat} {ln sz : Nat → Nat} {it : Nat → Nat → Int64} (hC : CA σ a np nq hr dr hs im tp tl ln sz it) (hI : WI a np nq hr dr hs im tp tl ln sz) {D q : Nat} (hD9 : D < 128) (hq : q < nq) : CN l yX6_hasClaimedBehindCarts cX6_hasClaimedBehindCarts 4 (some .boolean) ((d + 4)) X n [.ref 0, .int (nI q), .int (nI D)] σ (fun v σ' => v = some (.int (b2 (hasC (hourS (crtA a D np) np nq hr) q))) ∧ (CA σ' a np nq hr dr hs im tp tl ln sz it ∧ Eqo 0 42 σ σ')) := by
  refine CN.of (by decide) [some (.ref 0), some (.int (nI q)), some (.int (nI D)), none] (fun _ => Nat.le_of_ble_eq_true rfl) (fun _ => rfl) (fun cx hc => ?_)
  obtain ⟨da, dp, dq, dh, dd, hD⟩ := hC.cd
  obtain ⟨hW, hh, hdr, hwh, hwi, hU, hV⟩ := hI
  have hW1 := hW.1
  have hW2 := hW.2.1
  have hF : Eqo 0 42 σ σ := Eqo.rf
  refine R.aload_n (j := 0) (i := 0) hc rfl rfl dX6_hasClaimedBehindCarts_0 ?_
  refine R.get hc gf_X6_23_r dX6_hasClaimedBehindCarts_1 (hD.1) rfl ?_
  refine R.aload_n (j := 0) (i := 0) hc rfl rfl dX6_hasClaimedBehindCarts_4 ?_
  refine R.get hc gf_X6_10_r dX6_hasClaimedBehindCarts_5 (hD.1) rfl ?_
  refine R.cVu hc m_X4_copyFrom lk_X6_140 dX6_hasClaimedBehindCarts_8 (c_X4_copyFrom l (d + 2) X n hD.2.2.2.1 hD.2.1 hW1 hW2 (by omega)) (hD.2.2.2.1.obj) rfl rfl rfl (by omega) ⟨Nat.le_refl _, Nat.le_refl _⟩ (Nat.le_of_ble_eq_true rfl) (fun σ hX => ?_)
  have hD := hD.w hX.1 hX.2
  have hF := hF.tr (hX.2.wid (by omega))
  refine R.iconst hc ic_0 dX6_hasClaimedBehindCarts_11 ?_
  refine R.istn3 hc dX6_hasClaimedBehindCarts_12 (by decide) rfl ?_
  obtain ⟨σ0, hσ0⟩ : ∃ z, z = σ := ⟨_, rfl⟩
  refine rl_down (P := fun p => ∀ σ1, CD σ1 (crtA a D p) np nq hr dr a np nq hr dr hs im tp tl ln sz it → Eqo 0 42 _ σ1 → R cx 0 0 n σ1 13 [some (.ref 0), some (.int (nI q)), some (.int (nI D)), some (.int (nI p))] []) np (fun σ hD hF => ?_) (fun p hp ih σ hD hF => ?_) 0 (Nat.zero_le _) σ hD hF
  · refine R.iload_n (j := 3) (i := 3) hc rfl rfl dX6_hasClaimedBehindCarts_13 ?_
    refine R.aload_n (j := 0) (i := 0) hc rfl rfl dX6_hasClaimedBehindCarts_14 ?_
    refine R.get hc gf_X6_23_r dX6_hasClaimedBehindCarts_15 (hD.1) rfl ?_
    refine R.get hc gf_X6_144_r dX6_hasClaimedBehindCarts_18 (hD.2.2.2.1.obj) rfl ?_
    refine R.icmpN_ge (tgt := 46) hc dX6_hasClaimedBehindCarts_21 (by decide) (by omega) (by omega) (fun _ => ?_) (fun q => absurd (Nat.le_refl _) q)
    refine R.aload_n (j := 0) (i := 0) hc rfl rfl dX6_hasClaimedBehindCarts_46 ?_
    refine R.get hc gf_X6_23_r dX6_hasClaimedBehindCarts_47 (hD.1) rfl ?_
    refine R.cVu hc m_X4_passHour lk_X6_189 dX6_hasClaimedBehindCarts_50 (c_X4_passHour l d X n hD.2.2.2.1 (WF_crt hW _) (by omega)) (hD.2.2.2.1.obj) rfl rfl rfl (by omega) ⟨Nat.le_refl _, Nat.le_refl _⟩ (Nat.le_of_ble_eq_true rfl) (fun σ hX => ?_)
    have hD := hD.w hX.1 hX.2
    have hF := hF.tr (hX.2.wid (by omega))
    refine R.aload_n (j := 0) (i := 0) hc rfl rfl dX6_hasClaimedBehindCarts_53 ?_
    refine R.get hc gf_X6_23_r dX6_hasClaimedBehindCarts_54 (hD.1) rfl ?_
    refine R.iload_n (j := 1) (i := 1) hc rfl rfl dX6_hasClaimedBehindCarts_57 ?_
    refine R.cVr hc m_X4_hasClaimed lk_X6_182 dX6_hasClaimedBehindCarts_58 (c_X4_hasClaimed l (d + 3) X n hD.2.2.2.1 (WF_hourS (WF_crt hW _)) hq) (hD.2.2.2.1.obj) rfl rfl rfl (by omega) ⟨Nat.le_refl _, Nat.le_refl _⟩ (Nat.le_of_ble_eq_true rfl) ?_
    exact R.bret (c := hasC (hourS (crtA a D np) np nq hr) q) hc rfl dX6_hasClaimedBehindCarts_61 rfl ⟨rfl, rfl, hD.ca, hF⟩
  · rw [crtA] at ih
    refine R.iload_n (j := 3) (i := 3) hc rfl rfl dX6_hasClaimedBehindCarts_13 ?_
    refine R.aload_n (j := 0) (i := 0) hc rfl rfl dX6_hasClaimedBehindCarts_14 ?_
    refine R.get hc gf_X6_23_r dX6_hasClaimedBehindCarts_15 (hD.1) rfl ?_
    refine R.get hc gf_X6_144_r dX6_hasClaimedBehindCarts_18 (hD.2.2.2.1.obj) rfl ?_
    refine R.icmpN_ge (tgt := 46) hc dX6_hasClaimedBehindCarts_21 (by decide) (by omega) (by omega) (fun q => absurd q (by omega)) (fun _ => ?_)
    refine R.iload_n (j := 2) (i := 2) hc rfl rfl dX6_hasClaimedBehindCarts_24 ?_
    refine R.iload_n (j := 3) (i := 3) hc rfl rfl dX6_hasClaimedBehindCarts_25 ?_
    first | refine R.ishrN hc (by omega) (by omega) dX6_hasClaimedBehindCarts_26 ?_ | refine R.ishr hc dX6_hasClaimedBehindCarts_26 ?_
    refine R.iconst hc ic_1 dX6_hasClaimedBehindCarts_27 ?_
    first | refine R.iandN hc dX6_hasClaimedBehindCarts_28 ?_ | refine R.iand hc dX6_hasClaimedBehindCarts_28 ?_
    have h1 : D / 2 ^ p &&& 1 < 2 ^ 31 := Nat.lt_of_le_of_lt Nat.and_le_right (by decide)
    refine R.ifN_eq (tgt := 40) hc dX6_hasClaimedBehindCarts_29 (by decide) h1 (fun z => ?_) (fun z => ?_)
    · rw [tbz.mp z, if_neg (by decide)] at ih
      refine R.iinc3 hc dX6_hasClaimedBehindCarts_40 (iiN1 _) (by decide) rfl ?_
      refine R.goto (tgt := 13) hc dX6_hasClaimedBehindCarts_43 (by decide) ?_
      exact ih σ hD hF
    · rw [show D.testBit p = true by cases y : D.testBit p; exact absurd (tbz.mpr y) z; rfl, if_pos rfl] at ih
      refine R.aload_n (j := 0) (i := 0) hc rfl rfl dX6_hasClaimedBehindCarts_32 ?_
      refine R.get hc gf_X6_23_r dX6_hasClaimedBehindCarts_33 (hD.1) rfl ?_
      refine R.iload_n (j := 3) (i := 3) hc rfl rfl dX6_hasClaimedBehindCarts_36 ?_
      refine R.cVu hc m_X4_halve lk_X6_179 dX6_hasClaimedBehindCarts_37 (c_X4_halve l (d + 3) X n hD.2.2.2.1 (WF_crt hW _) (p := p) (by omega)) (hD.2.2.2.1.obj) rfl rfl rfl (by omega) ⟨Nat.le_refl _, Nat.le_refl _⟩ (Nat.le_of_ble_eq_true rfl) (fun σ hX => ?_)
      have hD := hD.w hX.1 hX.2
      have hF := hF.tr (hX.2.wid (by omega))
      refine R.iinc3 hc dX6_hasClaimedBehindCarts_40 (iiN1 _) (by decide) rfl ?_
      refine R.goto (tgt := 13) hc dX6_hasClaimedBehindCarts_43 (by decide) ?_
      exact ih σ hD hF
set_option maxHeartbeats 4000000 in
set_option maxRecDepth 100000 in
theorem c_X6_commonDivisor (l : Launch) (d : Nat) (X : Nat × (Nat → Int32)) (n : Nat) {σ : Wd} {x y : Nat} (hx : x < 2 ^ 31) (hy : y < 2 ^ 31) : CN l yX6_commonDivisor cX6_commonDivisor 6 (some .int) (d) X n [.int (nI x), .int (nI y)] σ (fun v σ' => v = some (.int (nI (Nat.gcd x y))) ∧ σ' = σ) := by
  refine CN.of (by decide) [some (.int (nI x)), some (.int (nI y)), none, none, none, none] (fun _ => Nat.le_of_ble_eq_true rfl) (fun _ => rfl) (fun cx hc => ?_)
  have hg : cdF 64 x y = Nat.gcd x y := cdF_gcd 32 64 x y (Nat.lt_of_lt_of_le hy (by decide)) (by decide)
  rw [← hg] at hc
  refine R.iload_n (j := 0) (i := 0) hc rfl rfl dX6_commonDivisor_0 ?_
  refine R.istn2 hc dX6_commonDivisor_1 (by decide) rfl ?_
  refine R.iload_n (j := 1) (i := 1) hc rfl rfl dX6_commonDivisor_2 ?_
  refine R.istn3 hc dX6_commonDivisor_3 (by decide) rfl ?_
  refine R.iconst hc ic_0 dX6_commonDivisor_4 ?_
  refine R.ist4 hc dX6_commonDivisor_5 (by decide) rfl ?_
  have key : ∀ j k u v, k + j = 64 → u < 2 ^ 31 → v < 2 ^ 31 → cdF j u v = cdF 64 x y → R cx 0 0 n σ 7 [some (.int (nI x)), some (.int (nI y)), some (.int (nI u)), some (.int (nI v)), some (.int (nI k)), none] [] := by
    intro j
    induction j with
    | zero =>
      intro k u v hk hu hv e
      refine R.iload (i := 4) hc rfl dX6_commonDivisor_7 ?_
      refine R.bipush hc bp_64 dX6_commonDivisor_9 ?_
      refine R.icmpN_ge (tgt := 34) hc dX6_commonDivisor_11 (by decide) (by omega) (by omega) (fun _ => ?_) (fun q => absurd (by omega) q)
      refine R.iload_n (j := 2) (i := 2) hc rfl rfl dX6_commonDivisor_34 ?_
      rw [cdF] at e
      exact R.iret hc rfl dX6_commonDivisor_35 ⟨rfl, by rw [e], rfl⟩
    | succ j ih =>
      intro k u v hk hu hv e
      rw [cdF] at e
      refine R.iload (i := 4) hc rfl dX6_commonDivisor_7 ?_
      refine R.bipush hc bp_64 dX6_commonDivisor_9 ?_
      refine R.icmpN_ge (tgt := 34) hc dX6_commonDivisor_11 (by decide) (by omega) (by omega) (fun q => absurd q (by omega)) (fun _ => ?_)
      refine R.iload_n (j := 3) (i := 3) hc rfl rfl dX6_commonDivisor_14 ?_
      refine R.ifN_eq (tgt := 34) hc dX6_commonDivisor_15 (by decide) (by omega) (fun z => ?_) (fun z => ?_)
      · rw [if_pos z] at e
        refine R.iload_n (j := 2) (i := 2) hc rfl rfl dX6_commonDivisor_34 ?_
        exact R.iret hc rfl dX6_commonDivisor_35 ⟨rfl, by rw [e], rfl⟩
      · rw [if_neg z] at e
        have h3 := Nat.mod_lt u (Nat.pos_of_ne_zero z)
        refine R.iload_n (j := 2) (i := 2) hc rfl rfl dX6_commonDivisor_18 ?_
        refine R.iload_n (j := 3) (i := 3) hc rfl rfl dX6_commonDivisor_19 ?_
        first | refine R.iremN hc (by omega) (by omega) (by omega) dX6_commonDivisor_20 ?_ | refine R.irem hc (by decide) dX6_commonDivisor_20 ?_
        refine R.ist5 hc dX6_commonDivisor_21 (by decide) rfl ?_
        refine R.iload_n (j := 3) (i := 3) hc rfl rfl dX6_commonDivisor_23 ?_
        refine R.istn2 hc dX6_commonDivisor_24 (by decide) rfl ?_
        refine R.iload (i := 5) hc rfl dX6_commonDivisor_25 ?_
        refine R.istn3 hc dX6_commonDivisor_27 (by decide) rfl ?_
        refine R.iinc4 hc dX6_commonDivisor_28 (iiN1 _) (by decide) rfl ?_
        refine R.goto (tgt := 7) hc dX6_commonDivisor_31 (by decide) ?_
        exact R.fg5 (ih (k + 1) v (u % v) (by omega) hv (by omega) e)
  exact key 64 0 x y rfl hx hy rfl
set_option maxHeartbeats 4000000 in
set_option maxRecDepth 100000 in
theorem c_X6_carts (l : Launch) (d : Nat) (X : Nat × (Nat → Int32)) (n : Nat) {σ : Wd} {a : SA} {np nq hr dr : Nat} {hs : List SN} {im : IM} {tp : Nat → Nat} {tl : Nat} {ln sz : Nat → Nat} {it : Nat → Nat → Int64} (hC : CA σ a np nq hr dr hs im tp tl ln sz it) (hI : WI a np nq hr dr hs im tp tl ln sz) (p w v : Int32) : CN l yX6_carts cX6_carts 7 (some .int) ((d + 5)) X n [.ref 0, .int p, .int w, .int v] σ (fun r σ' => r = some (.int (s_carts a np nq hr p w v)) ∧ (CA σ' a np nq hr dr hs im tp tl ln sz it ∧ Eqo 0 42 σ σ')) := by
  refine CN.of (by decide) [some (.ref 0), some (.int p), some (.int w), some (.int v), none, none, none] (fun _ => Nat.le_of_ble_eq_true rfl) (fun _ => rfl) (fun cx hc => ?_)
  have hI0 := hI
  obtain ⟨da, dp, dq, dh, dd, hD⟩ := hC.cd
  obtain ⟨hW, hh, hdr, hwh, hwi, hU, hV⟩ := hI
  have hW1 := hW.1
  have hW2 := hW.2.1
  have hF : Eqo 0 42 σ σ := Eqo.rf
  refine R.aload_n (j := 0) (i := 0) hc rfl rfl dX6_carts_0 ?_
  refine R.get hc gf_X6_10_r dX6_carts_1 (hD.1) rfl ?_
  refine R.iload_n (j := 1) (i := 1) hc rfl rfl dX6_carts_4 ?_
  refine R.cVr hc m_X4_hasPerson lk_X6_110 dX6_carts_5 (c_X4_hasPerson l (d + 4) X n hD.2.1 hW _) (hD.2.1.obj) rfl rfl rfl (by omega) ⟨Nat.le_refl _, Nat.le_refl _⟩ (Nat.le_of_ble_eq_true rfl) ?_
  refine R.ifB_eq (tgt := 30) hc dX6_carts_8 (by decide) (fun q0 => ?_) (fun q0 => ?_)
  · refine R.iconst hc ic_m1 dX6_carts_30 ?_
    have e9 : (-1) = s_carts a np nq hr p w v := by simp [s_carts, q0]
    exact R.iret hc rfl dX6_carts_31 ⟨rfl, congrArg (fun z => some (Value.int z)) e9, hD.ca, hF⟩
  refine R.iload_n (j := 2) (i := 2) hc rfl rfl dX6_carts_11 ?_
  refine R.iconst hc ic_0 dX6_carts_12 ?_
  refine R.bipush hc bp_10 dX6_carts_13 ?_
  refine R.cSr hc m_X6_within lk_X6_64 dX6_carts_15 (c_X6_within l (d + 4) X n _ _ _) rfl rfl (by omega) ⟨Nat.le_refl _, Nat.le_refl _⟩ (Nat.le_of_ble_eq_true rfl) ?_
  refine R.ifB_eq (tgt := 30) hc dX6_carts_18 (by decide) (fun q1 => ?_) (fun q1 => ?_)
  · refine R.iconst hc ic_m1 dX6_carts_30 ?_
    have e9 : (-1) = s_carts a np nq hr p w v := by simp [s_carts, q1]
    exact R.iret hc rfl dX6_carts_31 ⟨rfl, congrArg (fun z => some (Value.int z)) e9, hD.ca, hF⟩
  refine R.iload_n (j := 3) (i := 3) hc rfl rfl dX6_carts_21 ?_
  refine R.iconst hc ic_0 dX6_carts_22 ?_
  refine R.iconst hc ic_1 dX6_carts_23 ?_
  refine R.cSr hc m_X6_within lk_X6_64 dX6_carts_24 (c_X6_within l (d + 4) X n _ _ _) rfl rfl (by omega) ⟨Nat.le_refl _, Nat.le_refl _⟩ (Nat.le_of_ble_eq_true rfl) ?_
  refine R.ifB_ne (tgt := 32) hc dX6_carts_27 (by decide) (fun q2 => ?_) (fun q2 => ?_)
  rotate_left
  · refine R.iconst hc ic_m1 dX6_carts_30 ?_
    have e9 : (-1) = s_carts a np nq hr p w v := by simp [s_carts, q2]
    exact R.iret hc rfl dX6_carts_31 ⟨rfl, congrArg (fun z => some (Value.int z)) e9, hD.ca, hF⟩
  obtain ⟨j, rfl, hj, t0⟩ := inI_tN (by omega) q0
  obtain ⟨c, rfl, _, g2, t1⟩ := inR_of (by decide) (by decide) q1
  obtain ⟨i2, rfl, _, g3, t2⟩ := inR_of (by decide) (by decide) q2
  have hA : s_carts a np nq hr (nI j) (nI c) (nI i2) = nI (crtS a np nq hr j c i2) := by simp [s_carts, q0, q1, q2, t0, t1, t2]
  rw [hA] at hc
  have h2p : 2 ^ np ≤ 128 := Nat.le_trans (Nat.pow_le_pow_right (by omega) hW1) (by decide)
  have hAb := abv_le (a := a) (nq := nq) (hr := hr) (q := j) g2 hW1
  have hw7 := fun D => Nat.le_trans (wgt_le (a := a) (D := D) g2 np) (p10_7 hW1)
  have hal := Nat.le_trans (wAll_le (a := a) np) (p10_7 hW1)
  have hap := wAll_pos (a := a) np
  have hF0 := hF
  refine R.iconst hc ic_0 dX6_carts_32 ?_
  refine R.ist4 hc dX6_carts_33 (by decide) rfl ?_
  refine R.iconst hc ic_0 dX6_carts_35 ?_
  refine R.ist5 hc dX6_carts_36 (by decide) rfl ?_
  refine rl_down (P := fun D => ∀ σ1, CA σ1 a np nq hr dr hs im tp tl ln sz it → Eqo 0 42 σ σ1 → R cx 0 0 n σ1 38 [some (.ref 0), some (.int (nI j)), some (.int (nI c)), some (.int (nI i2)), some (.int (nI (abv a np nq hr c j D))), some (.int (nI D)), none] []) (2 ^ np) (fun σ hC hF => ?_) (fun D hDn ih σ hC hF => ?_) 0 (Nat.zero_le _) σ hC hF
  · obtain ⟨da, dp, dq, dh, dd, hD⟩ := hC.cd
    have hab := hAb (2 ^ np)
    refine R.iload (i := 5) hc rfl dX6_carts_38 ?_
    refine R.iconst hc ic_1 dX6_carts_40 ?_
    refine R.aload_n (j := 0) (i := 0) hc rfl rfl dX6_carts_41 ?_
    refine R.get hc gf_X6_10_r dX6_carts_42 (hD.1) rfl ?_
    refine R.get hc gf_X6_144_r dX6_carts_45 (hD.2.1.obj) rfl ?_
    first | refine R.shl1N hc (by omega) dX6_carts_48 ?_ | refine R.ishl hc dX6_carts_48 ?_
    refine R.icmpN_ge (tgt := 89) hc dX6_carts_49 (by decide) (by omega) (by omega) (fun _ => ?_) (fun q => absurd (Nat.le_refl _) q)
    have hgp : 0 < Nat.gcd (abv a np nq hr c j (2 ^ np)) (wAll a np) := Nat.gcd_pos_of_pos_right _ hap
    have hgl : Nat.gcd (abv a np nq hr c j (2 ^ np)) (wAll a np) ≤ wAll a np := Nat.gcd_le_right _ hap
    refine R.aload_n (j := 0) (i := 0) hc rfl rfl dX6_carts_89 ?_
    refine R.cVr hc m_X6_weightOfAll lk_X6_220 dX6_carts_90 (c_X6_weightOfAll l (d + 3) X n hD.ca hI0) (hD.1) rfl rfl rfl (by omega) ⟨Nat.le_refl _, Nat.le_refl _⟩ (Nat.le_of_ble_eq_true rfl) ?_
    refine R.ist5 hc dX6_carts_93 (by decide) rfl ?_
    refine R.iload (i := 4) hc rfl dX6_carts_95 ?_
    refine R.iload (i := 5) hc rfl dX6_carts_97 ?_
    refine R.cSr hc m_X6_commonDivisor lk_X6_223 dX6_carts_99 (c_X6_commonDivisor l (d + 4) X n (by omega) (by omega)) rfl rfl (by omega) ⟨Nat.le_refl _, Nat.le_refl _⟩ (Nat.le_of_ble_eq_true rfl) ?_
    refine R.ist6 hc dX6_carts_102 (by decide) rfl ?_
    refine R.iload (i := 6) hc rfl dX6_carts_104 ?_
    refine R.iconst hc ic_1 dX6_carts_106 ?_
    refine R.icmpN_ge (tgt := 114) hc dX6_carts_107 (by decide) (by omega) (by omega) (fun _ => ?_) (fun q => absurd hgp q)
    refine R.iload_n (j := 3) (i := 3) hc rfl rfl dX6_carts_114 ?_
    refine R.ifN_ne (tgt := 123) hc dX6_carts_115 (by decide) (by omega) (fun z => ?_) (fun z => ?_)
    · refine R.iload (i := 5) hc rfl dX6_carts_123 ?_
      refine R.iload (i := 6) hc rfl dX6_carts_125 ?_
      first | refine R.idivN hc (by omega) (by omega) (by omega) dX6_carts_127 ?_ | refine R.idiv hc (by decide) dX6_carts_127 ?_
      exact R.iret hc rfl dX6_carts_128 ⟨rfl, by rw [crtS, if_neg z], hD.ca, hF⟩
    · refine R.iload (i := 4) hc rfl dX6_carts_118 ?_
      refine R.goto (tgt := 125) hc dX6_carts_120 (by decide) ?_
      refine R.iload (i := 6) hc rfl dX6_carts_125 ?_
      first | refine R.idivN hc (by omega) (by omega) (by omega) dX6_carts_127 ?_ | refine R.idiv hc (by decide) dX6_carts_127 ?_
      exact R.iret hc rfl dX6_carts_128 ⟨rfl, by rw [crtS, if_pos z], hD.ca, hF⟩
  · obtain ⟨da, dp, dq, dh, dd, hD⟩ := hC.cd
    have hab := hAb D
    have hw9 := hw7 D
    rw [abv] at ih
    refine R.iload (i := 5) hc rfl dX6_carts_38 ?_
    refine R.iconst hc ic_1 dX6_carts_40 ?_
    refine R.aload_n (j := 0) (i := 0) hc rfl rfl dX6_carts_41 ?_
    refine R.get hc gf_X6_10_r dX6_carts_42 (hD.1) rfl ?_
    refine R.get hc gf_X6_144_r dX6_carts_45 (hD.2.1.obj) rfl ?_
    first | refine R.shl1N hc (by omega) dX6_carts_48 ?_ | refine R.ishl hc dX6_carts_48 ?_
    refine R.icmpN_ge (tgt := 89) hc dX6_carts_49 (by decide) (by omega) (by omega) (fun q => absurd q (by omega)) (fun _ => ?_)
    refine R.aload_n (j := 0) (i := 0) hc rfl rfl dX6_carts_52 ?_
    refine R.iload (i := 5) hc rfl dX6_carts_53 ?_
    refine R.iload_n (j := 2) (i := 2) hc rfl rfl dX6_carts_55 ?_
    refine R.cVr hc m_X6_weightOf lk_X6_213 dX6_carts_56 (c_X6_weightOf l (d + 3) X n hD.ca hI0 (by omega) g2) (hD.1) rfl rfl rfl (by omega) ⟨Nat.le_refl _, Nat.le_refl _⟩ (Nat.le_of_ble_eq_true rfl) ?_
    refine R.ist6 hc dX6_carts_59 (by decide) rfl ?_
    refine R.iload (i := 6) hc rfl dX6_carts_61 ?_
    refine R.ifN_le (tgt := 83) hc dX6_carts_63 (by decide) (by omega) (fun z => ?_) (fun z => ?_)
    · rw [show (if hasC (hourS (crtA a D np) np nq hr) j = true then wgt a c D np else 0) = 0 by rw [z]; split <;> rfl, Nat.add_zero] at ih
      refine R.iinc5 hc dX6_carts_83 (iiN1 _) (by decide) rfl ?_
      refine R.goto (tgt := 38) hc dX6_carts_86 (by decide) ?_
      exact R.fg6 (ih σ hD.ca hF)
    · refine R.aload_n (j := 0) (i := 0) hc rfl rfl dX6_carts_66 ?_
      refine R.iload_n (j := 1) (i := 1) hc rfl rfl dX6_carts_67 ?_
      refine R.iload (i := 5) hc rfl dX6_carts_68 ?_
      refine R.cVi hc m_X6_hasClaimedBehindCarts lk_X6_216 dX6_carts_70 (c_X6_hasClaimedBehindCarts l d X n hD.ca hI0 (by omega) hj) (hD.1) rfl rfl rfl (by omega) ⟨Nat.le_refl _, Nat.le_refl _⟩ (Nat.le_of_ble_eq_true rfl) (fun σ hX => ?_)
      obtain ⟨hC, hF9⟩ := hX
      have hF := hF.tr hF9
      obtain ⟨da, dp, dq, dh, dd, hD⟩ := hC.cd
      refine R.ifB_eq (tgt := 83) hc dX6_carts_73 (by decide) (fun y => ?_) (fun y => ?_)
      · rw [y, if_neg (by decide), Nat.add_zero] at ih
        refine R.iinc5 hc dX6_carts_83 (iiN1 _) (by decide) rfl ?_
        refine R.goto (tgt := 38) hc dX6_carts_86 (by decide) ?_
        exact R.fg6 (ih σ hD.ca hF)
      · rw [y, if_pos rfl] at ih
        refine R.iload (i := 4) hc rfl dX6_carts_76 ?_
        refine R.iload (i := 6) hc rfl dX6_carts_78 ?_
        first | refine R.iaddN hc dX6_carts_80 ?_ | refine R.iadd hc dX6_carts_80 ?_
        refine R.ist4 hc dX6_carts_81 (by decide) rfl ?_
        refine R.iinc5 hc dX6_carts_83 (iiN1 _) (by decide) rfl ?_
        refine R.goto (tgt := 38) hc dX6_carts_86 (by decide) ?_
        exact R.fg6 (ih σ hD.ca hF)
