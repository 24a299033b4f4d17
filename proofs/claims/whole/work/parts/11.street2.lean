def pop (S : Nat) : Nat := (List.range 7).foldl (fun r i => r + (if S.testBit i then 1 else 0)) 0
set_option maxHeartbeats 4000000 in
set_option maxRecDepth 100000 in
theorem c_bitCount (l : Launch) (d : Nat) (X : Nat × (Nat → Int32)) (n : Nat) {σ : Wd} {S : Nat} (hS7 : S < 128) : CN l yJ6_bitCount_0f7a4 cJ6_bitCount_0f7a4 1 (some .int) (d) X n [.int (nI S)] σ (fun v σ' => v = some (.int (nI (pop S))) ∧ σ' = σ) := by
  refine CN.of (by decide) [some (.int (nI S))] (fun _ => Nat.le_of_ble_eq_true rfl) (fun _ => rfl) (fun cx hc => ?_)
  refine R.iload_n (j := 0) (i := 0) hc rfl rfl dJ6_bitCount_0f7a4_0 ?_
  refine R.iload_n (j := 0) (i := 0) hc rfl rfl dJ6_bitCount_0f7a4_1 ?_
  refine R.iconst hc ic_1 dJ6_bitCount_0f7a4_2 ?_
  refine R.iushr hc dJ6_bitCount_0f7a4_3 ?_
  refine R.ldcw hc kc_J6_265 dJ6_bitCount_0f7a4_4 ?_
  first | refine R.iandN hc dJ6_bitCount_0f7a4_7 ?_ | refine R.iand hc dJ6_bitCount_0f7a4_7 ?_
  first | refine R.isubN hc (by omega) dJ6_bitCount_0f7a4_8 ?_ | refine R.isub hc dJ6_bitCount_0f7a4_8 ?_
  refine R.istn0 hc dJ6_bitCount_0f7a4_9 (by decide) rfl ?_
  refine R.iload_n (j := 0) (i := 0) hc rfl rfl dJ6_bitCount_0f7a4_10 ?_
  refine R.ldcw hc kc_J6_266 dJ6_bitCount_0f7a4_11 ?_
  first | refine R.iandN hc dJ6_bitCount_0f7a4_14 ?_ | refine R.iand hc dJ6_bitCount_0f7a4_14 ?_
  refine R.iload_n (j := 0) (i := 0) hc rfl rfl dJ6_bitCount_0f7a4_15 ?_
  refine R.iconst hc ic_2 dJ6_bitCount_0f7a4_16 ?_
  refine R.iushr hc dJ6_bitCount_0f7a4_17 ?_
  refine R.ldcw hc kc_J6_266 dJ6_bitCount_0f7a4_18 ?_
  first | refine R.iandN hc dJ6_bitCount_0f7a4_21 ?_ | refine R.iand hc dJ6_bitCount_0f7a4_21 ?_
  first | refine R.iaddN hc dJ6_bitCount_0f7a4_22 ?_ | refine R.iadd hc dJ6_bitCount_0f7a4_22 ?_
  refine R.istn0 hc dJ6_bitCount_0f7a4_23 (by decide) rfl ?_
  refine R.iload_n (j := 0) (i := 0) hc rfl rfl dJ6_bitCount_0f7a4_24 ?_
  refine R.iload_n (j := 0) (i := 0) hc rfl rfl dJ6_bitCount_0f7a4_25 ?_
  refine R.iconst hc ic_4 dJ6_bitCount_0f7a4_26 ?_
  refine R.iushr hc dJ6_bitCount_0f7a4_27 ?_
  first | refine R.iaddN hc dJ6_bitCount_0f7a4_28 ?_ | refine R.iadd hc dJ6_bitCount_0f7a4_28 ?_
  refine R.ldcw hc kc_J6_267 dJ6_bitCount_0f7a4_29 ?_
  first | refine R.iandN hc dJ6_bitCount_0f7a4_32 ?_ | refine R.iand hc dJ6_bitCount_0f7a4_32 ?_
  refine R.istn0 hc dJ6_bitCount_0f7a4_33 (by decide) rfl ?_
  refine R.iload_n (j := 0) (i := 0) hc rfl rfl dJ6_bitCount_0f7a4_34 ?_
  refine R.iload_n (j := 0) (i := 0) hc rfl rfl dJ6_bitCount_0f7a4_35 ?_
  refine R.bipush hc bp_8 dJ6_bitCount_0f7a4_36 ?_
  refine R.iushr hc dJ6_bitCount_0f7a4_38 ?_
  first | refine R.iaddN hc dJ6_bitCount_0f7a4_39 ?_ | refine R.iadd hc dJ6_bitCount_0f7a4_39 ?_
  refine R.istn0 hc dJ6_bitCount_0f7a4_40 (by decide) rfl ?_
  refine R.iload_n (j := 0) (i := 0) hc rfl rfl dJ6_bitCount_0f7a4_41 ?_
  refine R.iload_n (j := 0) (i := 0) hc rfl rfl dJ6_bitCount_0f7a4_42 ?_
  refine R.bipush hc bp_16 dJ6_bitCount_0f7a4_43 ?_
  refine R.iushr hc dJ6_bitCount_0f7a4_45 ?_
  first | refine R.iaddN hc dJ6_bitCount_0f7a4_46 ?_ | refine R.iadd hc dJ6_bitCount_0f7a4_46 ?_
  refine R.istn0 hc dJ6_bitCount_0f7a4_47 (by decide) rfl ?_
  refine R.iload_n (j := 0) (i := 0) hc rfl rfl dJ6_bitCount_0f7a4_48 ?_
  refine R.bipush hc bp_63 dJ6_bitCount_0f7a4_49 ?_
  first | refine R.iandN hc dJ6_bitCount_0f7a4_51 ?_ | refine R.iand hc dJ6_bitCount_0f7a4_51 ?_
  refine R.iret hc rfl dJ6_bitCount_0f7a4_52 ⟨rfl, ?_, rfl⟩
  congr 2
  clear hc
  revert S
  decide +kernel
set_option maxHeartbeats 4000000 in
set_option maxRecDepth 100000 in
theorem c_X4_shadyLoss (l : Launch) (d : Nat) (X : Nat × (Nat → Int32)) (n : Nat) {σ : Wd}  : CN l yX4_shadyLoss cX4_shadyLoss 0 (some .int) (d) X n [] σ (fun v σ' => v = some (.int (nI 1)) ∧ σ' = σ) := by
  refine CN.of (by decide) [] (fun _ => Nat.le_of_ble_eq_true rfl) (fun _ => rfl) (fun cx hc => ?_)
  refine R.iconst hc ic_1 dX4_shadyLoss_0 ?_
  exact R.iret hc rfl dX4_shadyLoss_1 ⟨rfl, rfl, rfl⟩
set_option maxHeartbeats 4000000 in
set_option maxRecDepth 100000 in
theorem c_X4_kerbLoss (l : Launch) (d : Nat) (X : Nat × (Nat → Int32)) (n : Nat) {σ : Wd} {b : Nat} {a : SA} {np nq hr dr : Nat} (hS : St σ b a np nq hr dr) (hW : WF a np nq) (hh : hr < 100000) : CN l yX4_kerbLoss cX4_kerbLoss 1 (some .int) (d) X n [.ref b] σ (fun v σ' => v = some (.int (nI (kerb hr))) ∧ σ' = σ) := by
  refine CN.of (by decide) [some (.ref b)] (fun _ => Nat.le_of_ble_eq_true rfl) (fun _ => rfl) (fun cx hc => ?_)
  refine R.aload_n (j := 0) (i := 0) hc rfl rfl dX4_kerbLoss_0 ?_
  refine R.get hc gf_X4_40_r dX4_kerbLoss_1 (hS.obj) rfl ?_
  refine R.iconst hc ic_2 dX4_kerbLoss_4 ?_
  first | refine R.iremN hc (by omega) (by omega) (by omega) dX4_kerbLoss_5 ?_ | refine R.irem hc (by decide) dX4_kerbLoss_5 ?_
  refine R.ifN_ne (tgt := 13) hc dX4_kerbLoss_6 (by decide) (by omega) (fun q => ?_) (fun q => ?_)
  · refine R.iconst hc ic_2 dX4_kerbLoss_13 ?_
    have e9 : nI 2 = nI (kerb hr) := by
      rw [kerb, if_neg q]
    exact R.iret hc rfl dX4_kerbLoss_14 ⟨rfl, by rw [e9], rfl⟩
  · refine R.iconst hc ic_4 dX4_kerbLoss_9 ?_
    refine R.goto (tgt := 14) hc dX4_kerbLoss_10 (by decide) ?_
    have e9 : nI 4 = nI (kerb hr) := by
      rw [kerb, if_pos q]
    exact R.iret hc rfl dX4_kerbLoss_14 ⟨rfl, by rw [e9], rfl⟩
def nbS (p : Nat) : Nat := 2 ^ p * 2 ^ 1 ||| 2 ^ p / 2 ^ 1
set_option maxHeartbeats 4000000 in
set_option maxRecDepth 100000 in
theorem c_X4_neighbours (l : Launch) (d : Nat) (X : Nat × (Nat → Int32)) (n : Nat) {σ : Wd} {p : Nat} (hp : p < 7) : CN l yX4_neighbours cX4_neighbours 2 (some .int) (d) X n [.int (nI p)] σ (fun v σ' => v = some (.int (nI (nbS p))) ∧ σ' = σ) := by
  refine CN.of (by decide) [some (.int (nI p)), none] (fun _ => Nat.le_of_ble_eq_true rfl) (fun _ => rfl) (fun cx hc => ?_)
  have h2 : 2 ^ p < 2 ^ 7 := Nat.pow_lt_pow_right (by omega) hp
  refine R.iconst hc ic_1 dX4_neighbours_0 ?_
  refine R.iload_n (j := 0) (i := 0) hc rfl rfl dX4_neighbours_1 ?_
  first | refine R.shl1N hc (by omega) dX4_neighbours_2 ?_ | refine R.ishl hc dX4_neighbours_2 ?_
  refine R.istn1 hc dX4_neighbours_3 (by decide) rfl ?_
  refine R.iload_n (j := 1) (i := 1) hc rfl rfl dX4_neighbours_4 ?_
  refine R.iconst hc ic_1 dX4_neighbours_5 ?_
  refine R.ishlN hc (by omega) (by omega) dX4_neighbours_6 ?_
  refine R.iload_n (j := 1) (i := 1) hc rfl rfl dX4_neighbours_7 ?_
  refine R.iconst hc ic_1 dX4_neighbours_8 ?_
  first | refine R.ishrN hc (by omega) (by omega) dX4_neighbours_9 ?_ | refine R.ishr hc dX4_neighbours_9 ?_
  first | refine R.iorN hc dX4_neighbours_10 ?_ | refine R.ior hc dX4_neighbours_10 ?_
  exact R.iret hc rfl dX4_neighbours_11 ⟨rfl, rfl, rfl⟩
def lessD (a : SA) (hr D p : Nat) : Nat := if a 0 p = 1 then 1 else if a 0 p = 2 then kerb hr else if a 0 p = 3 then (if 30 ≤ a 2 p then 0 else 1) else if a 0 p = 4 then kerb hr + 2 * pop (D &&& nbS p) else 2
theorem pop_nb : ∀ S, S < 128 → ∀ p, p < 7 → pop (S &&& nbS p) = (if 0 < p ∧ S.testBit (p - 1) = true then 1 else 0) + (if S.testBit (p + 1) = true then 1 else 0) := by decide +kernel
theorem lessD_eq {a : SA} {np nq hr p : Nat} (hW : WF a np nq) (hp : p < np) : lessD a hr (bsN (dryB a) np) p = less a np hr p := by
  have h7 := hW.1
  have hl : bsN (dryB a) np < 128 := Nat.lt_of_lt_of_le (bsN_lt _ _) (Nat.pow_le_pow_right (by omega) h7)
  unfold lessD less nbd
  rw [pop_nb _ hl p (by omega)]
  simp only [bsN_bit, dryB, Bool.and_eq_true, decide_eq_true_eq, beq_iff_eq]
  have e : (0 < p ∧ p - 1 < np ∧ a 2 (p - 1) = 0) ↔ (0 < p ∧ a 2 (p - 1) = 0) := by
    constructor
    · rintro ⟨x, _, y⟩; exact ⟨x, y⟩
    · rintro ⟨x, y⟩; exact ⟨x, by omega, y⟩
  simp only [e]
set_option maxHeartbeats 4000000 in
set_option maxRecDepth 100000 in
theorem c_X4_lessBy (l : Launch) (d : Nat) (X : Nat × (Nat → Int32)) (n : Nat) {σ : Wd} {b : Nat} {a : SA} {np nq hr dr : Nat} (hS : St σ b a np nq hr dr) (hW : WF a np nq) (hh : hr < 100000) {p D : Nat} (hp : p < np) (hD : D < 128) : CN l yX4_lessBy cX4_lessBy 3 (some .int) ((d + 1)) X n [.ref b, .int (nI p), .int (nI D)] σ (fun v σ' => v = some (.int (nI (lessD a hr D p))) ∧ σ' = σ) := by
  refine CN.of (by decide) [some (.ref b), some (.int (nI p)), some (.int (nI D))] (fun _ => Nat.le_of_ble_eq_true rfl) (fun _ => rfl) (fun cx hc => ?_)
  have hW1 := hW.1
  have hW2 := hW.2.1
  have hp3 := hW.2.2.1 p hp
  have hDn : D &&& nbS p < 128 := Nat.lt_of_le_of_lt Nat.and_le_left hD
  refine R.aload_n (j := 0) (i := 0) hc rfl rfl dX4_lessBy_0 ?_
  refine R.get hc gf_X4_11_r dX4_lessBy_1 (hS.obj) rfl ?_
  refine R.iload_n (j := 1) (i := 1) hc rfl rfl dX4_lessBy_4 ?_
  refine R.ialdE hc dX4_lessBy_5 (hS.r0 (by omega)) (by omega) (by decide) ?_
  rcases (by omega : a 0 p = 0 ∨ a 0 p = 1 ∨ a 0 p = 2 ∨ a 0 p = 3 ∨ a 0 p = 4) with e | e | e | e | e <;> rw [e]
  · refine R.tabOut (x := nI 0) (tgt := 81) hc dX4_lessBy_6 (by decide) (by decide) ?_
    refine R.iconst hc ic_2 dX4_lessBy_81 ?_
    have e9 : nI 2 = nI (lessD a hr D p) := by
      simp [lessD, e]
    exact R.iret hc rfl dX4_lessBy_82 ⟨rfl, by rw [e9], rfl⟩
  · refine R.tabIn (x := nI 1) (off := 30) (tgt := 36) hc dX4_lessBy_6 (by decide) (by decide) (by decide) (by decide) ?_
    refine R.cSr hc m_X4_shadyLoss lk_X4_67 dX4_lessBy_36 (c_X4_shadyLoss l d X n) rfl rfl (by omega) ⟨Nat.le_refl _, Nat.le_refl _⟩ (Nat.le_of_ble_eq_true rfl) ?_
    have e9 : nI 1 = nI (lessD a hr D p) := by
      simp [lessD, e]
    exact R.iret hc rfl dX4_lessBy_39 ⟨rfl, by rw [e9], rfl⟩
  · refine R.tabIn (x := nI 2) (off := 34) (tgt := 40) hc dX4_lessBy_6 (by decide) (by decide) (by decide) (by decide) ?_
    refine R.aload_n (j := 0) (i := 0) hc rfl rfl dX4_lessBy_40 ?_
    refine R.cVr hc m_X4_kerbLoss lk_X4_70 dX4_lessBy_41 (c_X4_kerbLoss l d X n hS hW hh) (hS.obj) rfl rfl rfl (by omega) ⟨Nat.le_refl _, Nat.le_refl _⟩ (Nat.le_of_ble_eq_true rfl) ?_
    have e9 : nI (kerb hr) = nI (lessD a hr D p) := by
      simp [lessD, e]
    exact R.iret hc rfl dX4_lessBy_44 ⟨rfl, by rw [e9], rfl⟩
  · refine R.tabIn (x := nI 3) (off := 39) (tgt := 45) hc dX4_lessBy_6 (by decide) (by decide) (by decide) (by decide) ?_
    refine R.aload_n (j := 0) (i := 0) hc rfl rfl dX4_lessBy_45 ?_
    refine R.get hc gf_X4_18_r dX4_lessBy_46 (hS.obj) rfl ?_
    refine R.iload_n (j := 1) (i := 1) hc rfl rfl dX4_lessBy_49 ?_
    refine R.ialdE hc dX4_lessBy_50 (hS.r2 (by omega)) (by omega) (by decide) ?_
    refine R.bipush hc bp_30 dX4_lessBy_51 ?_
    refine R.icmpN_lt (tgt := 60) hc dX4_lessBy_53 (by decide) (by omega) (by omega) (fun q => ?_) (fun q => ?_)
    · refine R.cSr hc m_X4_shadyLoss lk_X4_67 dX4_lessBy_60 (c_X4_shadyLoss l d X n) rfl rfl (by omega) ⟨Nat.le_refl _, Nat.le_refl _⟩ (Nat.le_of_ble_eq_true rfl) ?_
      have e9 : nI 1 = nI (lessD a hr D p) := by
        simp [lessD, e, show ¬ 30 ≤ a 2 p by omega]
      exact R.iret hc rfl dX4_lessBy_63 ⟨rfl, by rw [e9], rfl⟩
    · refine R.iconst hc ic_0 dX4_lessBy_56 ?_
      refine R.goto (tgt := 63) hc dX4_lessBy_57 (by decide) ?_
      have e9 : nI 0 = nI (lessD a hr D p) := by
        simp [lessD, e, show 30 ≤ a 2 p by omega]
      exact R.iret hc rfl dX4_lessBy_63 ⟨rfl, by rw [e9], rfl⟩
  · refine R.tabIn (x := nI 4) (off := 58) (tgt := 64) hc dX4_lessBy_6 (by decide) (by decide) (by decide) (by decide) ?_
    refine R.aload_n (j := 0) (i := 0) hc rfl rfl dX4_lessBy_64 ?_
    refine R.cVr hc m_X4_kerbLoss lk_X4_70 dX4_lessBy_65 (c_X4_kerbLoss l d X n hS hW hh) (hS.obj) rfl rfl rfl (by omega) ⟨Nat.le_refl _, Nat.le_refl _⟩ (Nat.le_of_ble_eq_true rfl) ?_
    refine R.iconst hc ic_2 dX4_lessBy_68 ?_
    refine R.iload_n (j := 2) (i := 2) hc rfl rfl dX4_lessBy_69 ?_
    refine R.iload_n (j := 1) (i := 1) hc rfl rfl dX4_lessBy_70 ?_
    refine R.cSr hc m_X4_neighbours lk_X4_73 dX4_lessBy_71 (c_X4_neighbours l d X n (by omega)) rfl rfl (by omega) ⟨Nat.le_refl _, Nat.le_refl _⟩ (Nat.le_of_ble_eq_true rfl) ?_
    first | refine R.iandN hc dX4_lessBy_74 ?_ | refine R.iand hc dX4_lessBy_74 ?_
    refine R.cSr hc m_J6_bitCount_0f7a4 lk_X4_77 dX4_lessBy_75 (c_bitCount l d X n hDn) rfl rfl (by omega) ⟨Nat.le_refl _, Nat.le_refl _⟩ (Nat.le_of_ble_eq_true rfl) ?_
    first | refine R.imulN hc dX4_lessBy_78 ?_ | refine R.imul hc dX4_lessBy_78 ?_
    first | refine R.iaddN hc dX4_lessBy_79 ?_ | refine R.iadd hc dX4_lessBy_79 ?_
    have e9 : nI (kerb hr + 2 * pop (D &&& nbS p)) = nI (lessD a hr D p) := by
      simp [lessD, e]
    exact R.iret hc rfl dX4_lessBy_80 ⟨rfl, by rw [e9], rfl⟩
set_option maxHeartbeats 4000000 in
set_option maxRecDepth 100000 in
theorem c_X4_deepestFit (l : Launch) (d : Nat) (X : Nat × (Nat → Int32)) (n : Nat) {σ : Wd} {b : Nat} {a : SA} {np nq hr dr : Nat} (hS : St σ b a np nq hr dr) (hW : WF a np nq) {q T r fr : Nat} {dp : Nat → Nat} (hq : q < nq) (hT : T < 2 ^ 31) (hD : ∃ (f : Nat → Int32) (m9 : Nat), σ r = some (.inl (0, m9, .inl f)) ∧ fr + np ≤ m9 ∧ m9 < 2 ^ 31 ∧ ∀ p, p < np → f (fr + p) = nI (dp p)) (hdp : ∀ p, p < np → dp p ≤ 60) : CN l yX4_deepestFit cX4_deepestFit 8 (some .int) ((d + 1)) X n [.ref b, .int (nI q), .int (nI T), .ref r, .int (nI fr)] σ (fun v σ' => v = some (.int (cI (dft (fun p => fitB a T p q (dp p)) dp np))) ∧ σ' = σ) := by
  refine CN.of (by decide) [some (.ref b), some (.int (nI q)), some (.int (nI T)), some (.ref r), some (.int (nI fr)), none, none, none] (fun _ => Nat.le_of_ble_eq_true rfl) (fun _ => rfl) (fun cx hc => ?_)
  have hW1 := hW.1
  have hW2 := hW.2.1
  obtain ⟨f, m9, h1, h2, h3, h4⟩ := hD
  refine R.bipush hc bp_m4 dX4_deepestFit_0 ?_
  refine R.ist5 hc dX4_deepestFit_2 (by decide) rfl ?_
  refine R.iconst hc ic_0 dX4_deepestFit_4 ?_
  refine R.ist6 hc dX4_deepestFit_5 (by decide) rfl ?_
  refine rl_down (P := fun p => R cx 0 0 n σ 7 [some (.ref b), some (.int (nI q)), some (.int (nI T)), some (.ref r), some (.int (nI fr)), some (.int (cI (dft (fun p => fitB a T p q (dp p)) dp p))), some (.int (nI p)), none] []) np ?_ (fun p hp ih => ?_) 0 (Nat.zero_le _)
  · refine R.iload (i := 6) hc rfl dX4_deepestFit_7 ?_
    refine R.aload_n (j := 0) (i := 0) hc rfl rfl dX4_deepestFit_9 ?_
    refine R.get hc gf_X4_33_r dX4_deepestFit_10 (hS.obj) rfl ?_
    refine R.icmpN_ge (tgt := 65) hc dX4_deepestFit_13 (by decide) (by omega) (by omega) (fun _ => ?_) (fun q => absurd (Nat.le_refl _) q)
    refine R.iload (i := 5) hc rfl dX4_deepestFit_65 ?_
    exact R.iret hc rfl dX4_deepestFit_67 ⟨rfl, rfl, rfl⟩
  · have hp3 := hW.2.2.1 p hp
    have hd3 := hdp p hp
    have hle := dft_le (fun p => fitB a T p q (dp p)) dp p
    refine R.iload (i := 6) hc rfl dX4_deepestFit_7 ?_
    refine R.aload_n (j := 0) (i := 0) hc rfl rfl dX4_deepestFit_9 ?_
    refine R.get hc gf_X4_33_r dX4_deepestFit_10 (hS.obj) rfl ?_
    refine R.icmpN_ge (tgt := 65) hc dX4_deepestFit_13 (by decide) (by omega) (by omega) (fun q => absurd q (by omega)) (fun _ => ?_)
    refine R.aload_n (j := 3) (i := 3) hc rfl rfl dX4_deepestFit_16 ?_
    refine R.iload (i := 4) hc rfl dX4_deepestFit_17 ?_
    refine R.iload (i := 6) hc rfl dX4_deepestFit_19 ?_
    first | refine R.iaddN hc dX4_deepestFit_21 ?_ | refine R.iadd hc dX4_deepestFit_21 ?_
    refine R.iald hc h1 (by omega) (by omega) dX4_deepestFit_22 ?_
    rw [h4 p hp]
    refine R.ist7 hc dX4_deepestFit_23 (by decide) rfl ?_
    refine R.aload_n (j := 0) (i := 0) hc rfl rfl dX4_deepestFit_25 ?_
    refine R.iload (i := 6) hc rfl dX4_deepestFit_26 ?_
    refine R.iload_n (j := 1) (i := 1) hc rfl rfl dX4_deepestFit_28 ?_
    refine R.iload_n (j := 2) (i := 2) hc rfl rfl dX4_deepestFit_29 ?_
    refine R.iload (i := 7) hc rfl dX4_deepestFit_30 ?_
    refine R.cVr hc m_X4_isFit lk_X4_63 dX4_deepestFit_32 (c_X4_isFit l d X n hS hW (by omega) (by omega) (by omega) (by omega)) (hS.obj) rfl rfl rfl (by omega) ⟨Nat.le_refl _, Nat.le_refl _⟩ (Nat.le_of_ble_eq_true rfl) ?_
    refine R.ifB_eq (tgt := 59) hc dX4_deepestFit_35 (by decide) (fun h => ?_) (fun h => ?_)
    · refine R.iinc6 hc dX4_deepestFit_59 (iiN1 _) (by decide) rfl ?_
      refine R.goto (tgt := 7) hc dX4_deepestFit_62 (by decide) ?_
      have e : dft (fun p => fitB a T p q (dp p)) dp (p + 1) = dft (fun p => fitB a T p q (dp p)) dp p := by rw [dft]; simp [h]
      rw [e] at ih
      exact R.fg7 ih
    · refine R.iload (i := 5) hc rfl dX4_deepestFit_38 ?_
      refine R.if_lt (tgt := 55) hc dX4_deepestFit_40 (by decide) (fun z => ?_) (fun z => ?_)
      · refine R.iload (i := 6) hc rfl dX4_deepestFit_55 ?_
        refine R.ist5 hc dX4_deepestFit_57 (by decide) rfl ?_
        refine R.iinc6 hc dX4_deepestFit_59 (iiN1 _) (by decide) rfl ?_
        refine R.goto (tgt := 7) hc dX4_deepestFit_62 (by decide) ?_
        have e : dft (fun p => fitB a T p q (dp p)) dp (p + 1) = p + 1 := by rw [dft]; simp [h, (cI_lt _ (by omega)).mp z]
        rw [e] at ih
        exact R.fg7 ih
      · have hz : ¬ dft (fun p => fitB a T p q (dp p)) dp p = 0 := fun y => z ((cI_lt _ (by omega)).mpr y)
        obtain ⟨c, hcv⟩ : ∃ c, dft (fun p => fitB a T p q (dp p)) dp p = c + 1 := ⟨dft (fun p => fitB a T p q (dp p)) dp p - 1, by omega⟩
        have hc3 := hdp c (by omega)
        rw [hcv] 
        simp only [cI]
        refine R.iload (i := 7) hc rfl dX4_deepestFit_43 ?_
        refine R.aload_n (j := 3) (i := 3) hc rfl rfl dX4_deepestFit_45 ?_
        refine R.iload (i := 4) hc rfl dX4_deepestFit_46 ?_
        refine R.iload (i := 5) hc rfl dX4_deepestFit_48 ?_
        first | refine R.iaddN hc dX4_deepestFit_50 ?_ | refine R.iadd hc dX4_deepestFit_50 ?_
        refine R.iald hc h1 (by omega) (by omega) dX4_deepestFit_51 ?_
        rw [h4 c (by omega)]
        refine R.icmpN_le (tgt := 59) hc dX4_deepestFit_52 (by decide) (by omega) (by omega) (fun y => ?_) (fun y => ?_)
        · refine R.iinc6 hc dX4_deepestFit_59 (iiN1 _) (by decide) rfl ?_
          refine R.goto (tgt := 7) hc dX4_deepestFit_62 (by decide) ?_
          have e : dft (fun p => fitB a T p q (dp p)) dp (p + 1) = c + 1 := by rw [dft]; simp [h, hcv]; omega
          rw [e] at ih
          exact R.fg7 ih
        · refine R.iload (i := 6) hc rfl dX4_deepestFit_55 ?_
          refine R.ist5 hc dX4_deepestFit_57 (by decide) rfl ?_
          refine R.iinc6 hc dX4_deepestFit_59 (iiN1 _) (by decide) rfl ?_
          refine R.goto (tgt := 7) hc dX4_deepestFit_62 (by decide) ?_
          have e : dft (fun p => fitB a T p q (dp p)) dp (p + 1) = p + 1 := by rw [dft]; simp [h, hcv]; omega
          rw [e] at ih
          exact R.fg7 ih
