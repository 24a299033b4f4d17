/-- a number of a row of k -/
def inI (x : Int32) (k : Nat) : Bool := decide (¬ x < 0 ∧ x < nI k)
theorem inI_of {x : Int32} {k : Nat} (hk : k < 2 ^ 31) (h : inI x k = true) : ∃ j, j < k ∧ x = nI j := by
  simp only [inI, decide_eq_true_eq] at h
  obtain ⟨j, hj, rfl⟩ := nI_of h.1
  exact ⟨j, (nI_ltI hj hk).mp h.2, rfl⟩
theorem inI_nI {j k : Nat} (hj : j < 2 ^ 31) (hk : k < 2 ^ 31) : inI (nI j) k = decide (j < k) := by
  simp only [inI, nI_pos hj, not_false_eq_true, true_and, nI_ltI hj hk]
theorem cI_lt (c : Nat) (hc : c ≤ 1000) : cI c < 0 ↔ c = 0 := by
  cases c with
  | zero => simp [cI]
  | succ c => simp [cI]; exact Int32.not_lt.mp (nI_pos (by omega))
set_option maxHeartbeats 4000000 in
set_option maxRecDepth 100000 in
theorem c_X4_hasPuddle (l : Launch) (d : Nat) (X : Nat × (Nat → Int32)) (n : Nat) {σ : Wd} {b : Nat} {a : SA} {np nq hr dr : Nat} (hS : St σ b a np nq hr dr) (hW : WF a np nq) (x : Int32) : CN l yX4_hasPuddle cX4_hasPuddle 2 (some .boolean) (d) X n [.ref b, .int x] σ (fun v σ' => v = some (.int (b2 (inI x np))) ∧ σ' = σ) := by
  refine CN.of (by decide) [some (.ref b), some (.int x)] (fun _ => Nat.le_of_ble_eq_true rfl) (fun _ => rfl) (fun cx hc => ?_)
  have hW1 := hW.1
  have hW2 := hW.2.1
  refine R.iload_n (j := 1) (i := 1) hc rfl rfl dX4_hasPuddle_0 ?_
  refine R.if_lt (tgt := 16) hc dX4_hasPuddle_1 (by decide) (fun q => ?_) (fun q => ?_)
  · refine R.iconst hc ic_0 dX4_hasPuddle_16 ?_
    have e9 : nI 0 = b2 (inI x np) := by
      simp [inI, q, b2]; rfl
    exact R.bret hc rfl dX4_hasPuddle_17 e9 ⟨rfl, congrArg (fun z => some (Value.int z)) e9, rfl⟩
  · refine R.iload_n (j := 1) (i := 1) hc rfl rfl dX4_hasPuddle_4 ?_
    refine R.aload_n (j := 0) (i := 0) hc rfl rfl dX4_hasPuddle_5 ?_
    refine R.get hc gf_X4_33_r dX4_hasPuddle_6 (hS.obj) rfl ?_
    refine R.icmp_ge (tgt := 16) hc dX4_hasPuddle_9 (by decide) (fun q2 => ?_) (fun q2 => ?_)
    · refine R.iconst hc ic_0 dX4_hasPuddle_16 ?_
      have e9 : nI 0 = b2 (inI x np) := by
        simp [inI, Int32.not_lt.mpr q2, b2]; rfl
      exact R.bret hc rfl dX4_hasPuddle_17 e9 ⟨rfl, congrArg (fun z => some (Value.int z)) e9, rfl⟩
    · refine R.iconst hc ic_1 dX4_hasPuddle_12 ?_
      refine R.goto (tgt := 17) hc dX4_hasPuddle_13 (by decide) ?_
      have e9 : nI 1 = b2 (inI x np) := by
        simp [inI, q, Int32.not_le.mp q2, b2]; rfl
      exact R.bret hc rfl dX4_hasPuddle_17 e9 ⟨rfl, congrArg (fun z => some (Value.int z)) e9, rfl⟩
set_option maxHeartbeats 4000000 in
set_option maxRecDepth 100000 in
theorem c_X4_hasPerson (l : Launch) (d : Nat) (X : Nat × (Nat → Int32)) (n : Nat) {σ : Wd} {b : Nat} {a : SA} {np nq hr dr : Nat} (hS : St σ b a np nq hr dr) (hW : WF a np nq) (x : Int32) : CN l yX4_hasPerson cX4_hasPerson 2 (some .boolean) (d) X n [.ref b, .int x] σ (fun v σ' => v = some (.int (b2 (inI x nq))) ∧ σ' = σ) := by
  refine CN.of (by decide) [some (.ref b), some (.int x)] (fun _ => Nat.le_of_ble_eq_true rfl) (fun _ => rfl) (fun cx hc => ?_)
  have hW1 := hW.1
  have hW2 := hW.2.1
  refine R.iload_n (j := 1) (i := 1) hc rfl rfl dX4_hasPerson_0 ?_
  refine R.if_lt (tgt := 16) hc dX4_hasPerson_1 (by decide) (fun q => ?_) (fun q => ?_)
  · refine R.iconst hc ic_0 dX4_hasPerson_16 ?_
    have e9 : nI 0 = b2 (inI x nq) := by
      simp [inI, q, b2]; rfl
    exact R.bret hc rfl dX4_hasPerson_17 e9 ⟨rfl, congrArg (fun z => some (Value.int z)) e9, rfl⟩
  · refine R.iload_n (j := 1) (i := 1) hc rfl rfl dX4_hasPerson_4 ?_
    refine R.aload_n (j := 0) (i := 0) hc rfl rfl dX4_hasPerson_5 ?_
    refine R.get hc gf_X4_37_r dX4_hasPerson_6 (hS.obj) rfl ?_
    refine R.icmp_ge (tgt := 16) hc dX4_hasPerson_9 (by decide) (fun q2 => ?_) (fun q2 => ?_)
    · refine R.iconst hc ic_0 dX4_hasPerson_16 ?_
      have e9 : nI 0 = b2 (inI x nq) := by
        simp [inI, Int32.not_lt.mpr q2, b2]; rfl
      exact R.bret hc rfl dX4_hasPerson_17 e9 ⟨rfl, congrArg (fun z => some (Value.int z)) e9, rfl⟩
    · refine R.iconst hc ic_1 dX4_hasPerson_12 ?_
      refine R.goto (tgt := 17) hc dX4_hasPerson_13 (by decide) ?_
      have e9 : nI 1 = b2 (inI x nq) := by
        simp [inI, q, Int32.not_le.mp q2, b2]; rfl
      exact R.bret hc rfl dX4_hasPerson_17 e9 ⟨rfl, congrArg (fun z => some (Value.int z)) e9, rfl⟩
set_option maxHeartbeats 4000000 in
set_option maxRecDepth 100000 in
theorem c_X4_isDry (l : Launch) (d : Nat) (X : Nat × (Nat → Int32)) (n : Nat) {σ : Wd} {b : Nat} {a : SA} {np nq hr dr : Nat} (hS : St σ b a np nq hr dr) (hW : WF a np nq) {p : Nat} (hp : p < np) : CN l yX4_isDry cX4_isDry 2 (some .boolean) (d) X n [.ref b, .int (nI p)] σ (fun v σ' => v = some (.int (b2 (dryB a p))) ∧ σ' = σ) := by
  refine CN.of (by decide) [some (.ref b), some (.int (nI p))] (fun _ => Nat.le_of_ble_eq_true rfl) (fun _ => rfl) (fun cx hc => ?_)
  have hW1 := hW.1
  have hW2 := hW.2.1
  have hp3 := hW.2.2.1 p hp
  refine R.aload_n (j := 0) (i := 0) hc rfl rfl dX4_isDry_0 ?_
  refine R.get hc gf_X4_18_r dX4_isDry_1 (hS.obj) rfl ?_
  refine R.iload_n (j := 1) (i := 1) hc rfl rfl dX4_isDry_4 ?_
  refine R.ialdE hc dX4_isDry_5 (hS.r2 (by omega)) (by omega) (by decide) ?_
  refine R.ifN_ne (tgt := 13) hc dX4_isDry_6 (by decide) (by omega) (fun q => ?_) (fun q => ?_)
  · refine R.iconst hc ic_0 dX4_isDry_13 ?_
    have e9 : nI 0 = b2 (dryB a p) := by
      simp [dryB, q, b2]; rfl
    exact R.bret hc rfl dX4_isDry_14 e9 ⟨rfl, congrArg (fun z => some (Value.int z)) e9, rfl⟩
  · refine R.iconst hc ic_1 dX4_isDry_9 ?_
    refine R.goto (tgt := 14) hc dX4_isDry_10 (by decide) ?_
    have e9 : nI 1 = b2 (dryB a p) := by
      simp [dryB, q, b2]; rfl
    exact R.bret hc rfl dX4_isDry_14 e9 ⟨rfl, congrArg (fun z => some (Value.int z)) e9, rfl⟩
set_option maxHeartbeats 4000000 in
set_option maxRecDepth 100000 in
theorem c_X4_hasClaimed (l : Launch) (d : Nat) (X : Nat × (Nat → Int32)) (n : Nat) {σ : Wd} {b : Nat} {a : SA} {np nq hr dr : Nat} (hS : St σ b a np nq hr dr) (hW : WF a np nq) {q : Nat} (hq : q < nq) : CN l yX4_hasClaimed cX4_hasClaimed 2 (some .boolean) (d) X n [.ref b, .int (nI q)] σ (fun v σ' => v = some (.int (b2 (hasC a q))) ∧ σ' = σ) := by
  refine CN.of (by decide) [some (.ref b), some (.int (nI q))] (fun _ => Nat.le_of_ble_eq_true rfl) (fun _ => rfl) (fun cx hc => ?_)
  have hW1 := hW.1
  have hW2 := hW.2.1
  have hq3 := hW.2.2.2.1 q hq
  refine R.aload_n (j := 0) (i := 0) hc rfl rfl dX4_hasClaimed_0 ?_
  refine R.get hc gf_X4_30_r dX4_hasClaimed_1 (hS.obj) rfl ?_
  refine R.iload_n (j := 1) (i := 1) hc rfl rfl dX4_hasClaimed_4 ?_
  refine R.ialdE hc dX4_hasClaimed_5 (hS.r6 (by omega)) (by omega) (by decide) ?_
  refine R.if_lt (tgt := 13) hc dX4_hasClaimed_6 (by decide) (fun h => ?_) (fun h => ?_)
  · refine R.iconst hc ic_0 dX4_hasClaimed_13 ?_
    have e9 : nI 0 = b2 (hasC a q) := by
      simp [hasC, (cI_lt _ (by omega)).mp h, b2]; rfl
    exact R.bret hc rfl dX4_hasClaimed_14 e9 ⟨rfl, congrArg (fun z => some (Value.int z)) e9, rfl⟩
  · refine R.iconst hc ic_1 dX4_hasClaimed_9 ?_
    refine R.goto (tgt := 14) hc dX4_hasClaimed_10 (by decide) ?_
    have e9 : nI 1 = b2 (hasC a q) := by
      have h0 : ¬ a 6 q = 0 := fun z => h ((cI_lt _ (by omega)).mpr z)
      simp [hasC, h0, b2]; rfl
    exact R.bret hc rfl dX4_hasClaimed_14 e9 ⟨rfl, congrArg (fun z => some (Value.int z)) e9, rfl⟩
set_option maxHeartbeats 4000000 in
set_option maxRecDepth 100000 in
theorem c_X4_drySet (l : Launch) (d : Nat) (X : Nat × (Nat → Int32)) (n : Nat) {σ : Wd} {b : Nat} {a : SA} {np nq hr dr : Nat} (hS : St σ b a np nq hr dr) (hW : WF a np nq) : CN l yX4_drySet cX4_drySet 3 (some .int) ((d + 1)) X n [.ref b] σ (fun v σ' => v = some (.int (nI (bsN (dryB a) np))) ∧ σ' = σ) := by
  refine CN.of (by decide) [some (.ref b), none, none] (fun _ => Nat.le_of_ble_eq_true rfl) (fun _ => rfl) (fun cx hc => ?_)
  have hW1 := hW.1
  have hW2 := hW.2.1
  refine R.iconst hc ic_0 dX4_drySet_0 ?_
  refine R.istn1 hc dX4_drySet_1 (by decide) rfl ?_
  refine R.iconst hc ic_0 dX4_drySet_2 ?_
  refine R.istn2 hc dX4_drySet_3 (by decide) rfl ?_
  refine rl_down (P := fun p => R cx 0 0 n σ 4 [some (.ref b), some (.int (nI (bsN (dryB a) p))), some (.int (nI p))] []) np ?_ (fun p hp ih => ?_) 0 (Nat.zero_le _)
  · refine R.iload_n (j := 2) (i := 2) hc rfl rfl dX4_drySet_4 ?_
    refine R.aload_n (j := 0) (i := 0) hc rfl rfl dX4_drySet_5 ?_
    refine R.get hc gf_X4_33_r dX4_drySet_6 (hS.obj) rfl ?_
    refine R.icmpN_ge (tgt := 36) hc dX4_drySet_9 (by decide) (by omega) (by omega) (fun _ => ?_) (fun q => absurd (Nat.le_refl _) q)
    refine R.iload_n (j := 1) (i := 1) hc rfl rfl dX4_drySet_36 ?_
    exact R.iret hc rfl dX4_drySet_37 ⟨rfl, rfl, rfl⟩
  · refine R.iload_n (j := 2) (i := 2) hc rfl rfl dX4_drySet_4 ?_
    refine R.aload_n (j := 0) (i := 0) hc rfl rfl dX4_drySet_5 ?_
    refine R.get hc gf_X4_33_r dX4_drySet_6 (hS.obj) rfl ?_
    refine R.icmpN_ge (tgt := 36) hc dX4_drySet_9 (by decide) (by omega) (by omega) (fun q => absurd q (by omega)) (fun _ => ?_)
    refine R.iload_n (j := 1) (i := 1) hc rfl rfl dX4_drySet_12 ?_
    refine R.aload_n (j := 0) (i := 0) hc rfl rfl dX4_drySet_13 ?_
    refine R.iload_n (j := 2) (i := 2) hc rfl rfl dX4_drySet_14 ?_
    refine R.cVr hc m_X4_isDry lk_X4_52 dX4_drySet_15 (c_X4_isDry l d X n hS hW (by omega)) (hS.obj) rfl rfl rfl (by omega) ⟨Nat.le_refl _, Nat.le_refl _⟩ (Nat.le_of_ble_eq_true rfl) ?_
    refine R.ifB_eq (tgt := 27) hc dX4_drySet_18 (by decide) (fun q => ?_) (fun q => ?_)
    · refine R.iconst hc ic_0 dX4_drySet_27 ?_
      first | refine R.iorN hc dX4_drySet_28 ?_ | refine R.ior hc dX4_drySet_28 ?_
      refine R.istn1 hc dX4_drySet_29 (by decide) rfl ?_
      refine R.iinc2 hc dX4_drySet_30 (iiN1 _) (by decide) rfl ?_
      refine R.goto (tgt := 4) hc dX4_drySet_33 (by decide) ?_
      have e : bsN (dryB a) (p + 1) = bsN (dryB a) p ||| 0 := by simp [bsN, q]
      rw [e] at ih
      exact ih
    · refine R.iconst hc ic_1 dX4_drySet_21 ?_
      refine R.iload_n (j := 2) (i := 2) hc rfl rfl dX4_drySet_22 ?_
      first | refine R.shl1N hc (by omega) dX4_drySet_23 ?_ | refine R.ishl hc dX4_drySet_23 ?_
      refine R.goto (tgt := 28) hc dX4_drySet_24 (by decide) ?_
      first | refine R.iorN hc dX4_drySet_28 ?_ | refine R.ior hc dX4_drySet_28 ?_
      refine R.istn1 hc dX4_drySet_29 (by decide) rfl ?_
      refine R.iinc2 hc dX4_drySet_30 (iiN1 _) (by decide) rfl ?_
      refine R.goto (tgt := 4) hc dX4_drySet_33 (by decide) ?_
      have e : bsN (dryB a) (p + 1) = bsN (dryB a) p ||| 2 ^ p := by simp [bsN, q]
      rw [e] at ih
      exact ih
set_option maxHeartbeats 4000000 in
set_option maxRecDepth 100000 in
theorem c_X4_claimants (l : Launch) (d : Nat) (X : Nat × (Nat → Int32)) (n : Nat) {σ : Wd} {b : Nat} {a : SA} {np nq hr dr : Nat} (hS : St σ b a np nq hr dr) (hW : WF a np nq) : CN l yX4_claimants cX4_claimants 3 (some .int) ((d + 1)) X n [.ref b] σ (fun v σ' => v = some (.int (nI (bsN (hasC a) nq))) ∧ σ' = σ) := by
  refine CN.of (by decide) [some (.ref b), none, none] (fun _ => Nat.le_of_ble_eq_true rfl) (fun _ => rfl) (fun cx hc => ?_)
  have hW1 := hW.1
  have hW2 := hW.2.1
  refine R.iconst hc ic_0 dX4_claimants_0 ?_
  refine R.istn1 hc dX4_claimants_1 (by decide) rfl ?_
  refine R.iconst hc ic_0 dX4_claimants_2 ?_
  refine R.istn2 hc dX4_claimants_3 (by decide) rfl ?_
  refine rl_down (P := fun p => R cx 0 0 n σ 4 [some (.ref b), some (.int (nI (bsN (hasC a) p))), some (.int (nI p))] []) nq ?_ (fun p hp ih => ?_) 0 (Nat.zero_le _)
  · refine R.iload_n (j := 2) (i := 2) hc rfl rfl dX4_claimants_4 ?_
    refine R.aload_n (j := 0) (i := 0) hc rfl rfl dX4_claimants_5 ?_
    refine R.get hc gf_X4_37_r dX4_claimants_6 (hS.obj) rfl ?_
    refine R.icmpN_ge (tgt := 36) hc dX4_claimants_9 (by decide) (by omega) (by omega) (fun _ => ?_) (fun q => absurd (Nat.le_refl _) q)
    refine R.iload_n (j := 1) (i := 1) hc rfl rfl dX4_claimants_36 ?_
    exact R.iret hc rfl dX4_claimants_37 ⟨rfl, rfl, rfl⟩
  · refine R.iload_n (j := 2) (i := 2) hc rfl rfl dX4_claimants_4 ?_
    refine R.aload_n (j := 0) (i := 0) hc rfl rfl dX4_claimants_5 ?_
    refine R.get hc gf_X4_37_r dX4_claimants_6 (hS.obj) rfl ?_
    refine R.icmpN_ge (tgt := 36) hc dX4_claimants_9 (by decide) (by omega) (by omega) (fun q => absurd q (by omega)) (fun _ => ?_)
    refine R.iload_n (j := 1) (i := 1) hc rfl rfl dX4_claimants_12 ?_
    refine R.aload_n (j := 0) (i := 0) hc rfl rfl dX4_claimants_13 ?_
    refine R.iload_n (j := 2) (i := 2) hc rfl rfl dX4_claimants_14 ?_
    refine R.cVr hc m_X4_hasClaimed lk_X4_56 dX4_claimants_15 (c_X4_hasClaimed l d X n hS hW (by omega)) (hS.obj) rfl rfl rfl (by omega) ⟨Nat.le_refl _, Nat.le_refl _⟩ (Nat.le_of_ble_eq_true rfl) ?_
    refine R.ifB_eq (tgt := 27) hc dX4_claimants_18 (by decide) (fun q => ?_) (fun q => ?_)
    · refine R.iconst hc ic_0 dX4_claimants_27 ?_
      first | refine R.iorN hc dX4_claimants_28 ?_ | refine R.ior hc dX4_claimants_28 ?_
      refine R.istn1 hc dX4_claimants_29 (by decide) rfl ?_
      refine R.iinc2 hc dX4_claimants_30 (iiN1 _) (by decide) rfl ?_
      refine R.goto (tgt := 4) hc dX4_claimants_33 (by decide) ?_
      have e : bsN (hasC a) (p + 1) = bsN (hasC a) p ||| 0 := by simp [bsN, q]
      rw [e] at ih
      exact ih
    · refine R.iconst hc ic_1 dX4_claimants_21 ?_
      refine R.iload_n (j := 2) (i := 2) hc rfl rfl dX4_claimants_22 ?_
      first | refine R.shl1N hc (by omega) dX4_claimants_23 ?_ | refine R.ishl hc dX4_claimants_23 ?_
      refine R.goto (tgt := 28) hc dX4_claimants_24 (by decide) ?_
      first | refine R.iorN hc dX4_claimants_28 ?_ | refine R.ior hc dX4_claimants_28 ?_
      refine R.istn1 hc dX4_claimants_29 (by decide) rfl ?_
      refine R.iinc2 hc dX4_claimants_30 (iiN1 _) (by decide) rfl ?_
      refine R.goto (tgt := 4) hc dX4_claimants_33 (by decide) ?_
      have e : bsN (hasC a) (p + 1) = bsN (hasC a) p ||| 2 ^ p := by simp [bsN, q]
      rw [e] at ih
      exact ih
set_option maxHeartbeats 4000000 in
set_option maxRecDepth 100000 in
theorem c_X4_claimedSet (l : Launch) (d : Nat) (X : Nat × (Nat → Int32)) (n : Nat) {σ : Wd} {b : Nat} {a : SA} {np nq hr dr : Nat} (hS : St σ b a np nq hr dr) (hW : WF a np nq) : CN l yX4_claimedSet cX4_claimedSet 3 (some .int) ((d + 1)) X n [.ref b] σ (fun v σ' => v = some (.int (nI (clS a nq))) ∧ σ' = σ) := by
  refine CN.of (by decide) [some (.ref b), none, none] (fun _ => Nat.le_of_ble_eq_true rfl) (fun _ => rfl) (fun cx hc => ?_)
  have hW1 := hW.1
  have hW2 := hW.2.1
  refine R.iconst hc ic_0 dX4_claimedSet_0 ?_
  refine R.istn1 hc dX4_claimedSet_1 (by decide) rfl ?_
  refine R.iconst hc ic_0 dX4_claimedSet_2 ?_
  refine R.istn2 hc dX4_claimedSet_3 (by decide) rfl ?_
  refine rl_down (P := fun p => R cx 0 0 n σ 4 [some (.ref b), some (.int (nI (clS a p))), some (.int (nI p))] []) nq ?_ (fun p hp ih => ?_) 0 (Nat.zero_le _)
  · refine R.iload_n (j := 2) (i := 2) hc rfl rfl dX4_claimedSet_4 ?_
    refine R.aload_n (j := 0) (i := 0) hc rfl rfl dX4_claimedSet_5 ?_
    refine R.get hc gf_X4_37_r dX4_claimedSet_6 (hS.obj) rfl ?_
    refine R.icmpN_ge (tgt := 41) hc dX4_claimedSet_9 (by decide) (by omega) (by omega) (fun _ => ?_) (fun q => absurd (Nat.le_refl _) q)
    refine R.iload_n (j := 1) (i := 1) hc rfl rfl dX4_claimedSet_41 ?_
    exact R.iret hc rfl dX4_claimedSet_42 ⟨rfl, rfl, rfl⟩
  · refine R.iload_n (j := 2) (i := 2) hc rfl rfl dX4_claimedSet_4 ?_
    refine R.aload_n (j := 0) (i := 0) hc rfl rfl dX4_claimedSet_5 ?_
    refine R.get hc gf_X4_37_r dX4_claimedSet_6 (hS.obj) rfl ?_
    refine R.icmpN_ge (tgt := 41) hc dX4_claimedSet_9 (by decide) (by omega) (by omega) (fun q => absurd q (by omega)) (fun _ => ?_)
    have hq3 := hW.2.2.2.1 p hp
    refine R.iload_n (j := 1) (i := 1) hc rfl rfl dX4_claimedSet_12 ?_
    refine R.aload_n (j := 0) (i := 0) hc rfl rfl dX4_claimedSet_13 ?_
    refine R.iload_n (j := 2) (i := 2) hc rfl rfl dX4_claimedSet_14 ?_
    refine R.cVr hc m_X4_hasClaimed lk_X4_56 dX4_claimedSet_15 (c_X4_hasClaimed l d X n hS hW (by omega)) (hS.obj) rfl rfl rfl (by omega) ⟨Nat.le_refl _, Nat.le_refl _⟩ (Nat.le_of_ble_eq_true rfl) ?_
    refine R.ifB_eq (tgt := 32) hc dX4_claimedSet_18 (by decide) (fun q => ?_) (fun q => ?_)
    · refine R.iconst hc ic_0 dX4_claimedSet_32 ?_
      first | refine R.iorN hc dX4_claimedSet_33 ?_ | refine R.ior hc dX4_claimedSet_33 ?_
      refine R.istn1 hc dX4_claimedSet_34 (by decide) rfl ?_
      refine R.iinc2 hc dX4_claimedSet_35 (iiN1 _) (by decide) rfl ?_
      refine R.goto (tgt := 4) hc dX4_claimedSet_38 (by decide) ?_
      have e : clS a (p + 1) = clS a p ||| 0 := by simp [hasC] at q; simp [clS, q]
      rw [e] at ih
      exact ih
    · obtain ⟨c, hcv⟩ : ∃ c, a 6 p = c + 1 := ⟨a 6 p - 1, by simp [hasC] at q; omega⟩
      refine R.iconst hc ic_1 dX4_claimedSet_21 ?_
      refine R.aload_n (j := 0) (i := 0) hc rfl rfl dX4_claimedSet_22 ?_
      refine R.get hc gf_X4_30_r dX4_claimedSet_23 (hS.obj) rfl ?_
      refine R.iload_n (j := 2) (i := 2) hc rfl rfl dX4_claimedSet_26 ?_
      refine R.ialdE hc dX4_claimedSet_27 (hS.r6 (by omega)) (by omega) (by decide) ?_
      rw [hcv]
      simp only [cI]
      first | refine R.shl1N hc (by omega) dX4_claimedSet_28 ?_ | refine R.ishl hc dX4_claimedSet_28 ?_
      refine R.goto (tgt := 33) hc dX4_claimedSet_29 (by decide) ?_
      first | refine R.iorN hc dX4_claimedSet_33 ?_ | refine R.ior hc dX4_claimedSet_33 ?_
      refine R.istn1 hc dX4_claimedSet_34 (by decide) rfl ?_
      refine R.iinc2 hc dX4_claimedSet_35 (iiN1 _) (by decide) rfl ?_
      refine R.goto (tgt := 4) hc dX4_claimedSet_38 (by decide) ?_
      have e : clS a (p + 1) = clS a p ||| 2 ^ c := by simp [clS, hcv]
      rw [e] at ih
      exact ih
def sumN (f : Nat → Nat) : Nat → Nat
  | 0 => 0
  | i + 1 => sumN f i + f i
set_option maxHeartbeats 4000000 in
set_option maxRecDepth 100000 in
theorem c_X4_depthOfAll (l : Launch) (d : Nat) (X : Nat × (Nat → Int32)) (n : Nat) {σ : Wd} {b : Nat} {a : SA} {np nq hr dr : Nat} (hS : St σ b a np nq hr dr) (hW : WF a np nq) : CN l yX4_depthOfAll cX4_depthOfAll 3 (some .int) (d) X n [.ref b] σ (fun v σ' => v = some (.int (nI (sumN (a 2) np))) ∧ σ' = σ) := by
  refine CN.of (by decide) [some (.ref b), none, none] (fun _ => Nat.le_of_ble_eq_true rfl) (fun _ => rfl) (fun cx hc => ?_)
  have hW1 := hW.1
  have hW2 := hW.2.1
  refine R.iconst hc ic_0 dX4_depthOfAll_0 ?_
  refine R.istn1 hc dX4_depthOfAll_1 (by decide) rfl ?_
  refine R.iconst hc ic_0 dX4_depthOfAll_2 ?_
  refine R.istn2 hc dX4_depthOfAll_3 (by decide) rfl ?_
  refine rl_down (P := fun p => R cx 0 0 n σ 4 [some (.ref b), some (.int (nI (sumN (a 2) p))), some (.int (nI p))] []) np ?_ (fun p hp ih => ?_) 0 (Nat.zero_le _)
  · refine R.iload_n (j := 2) (i := 2) hc rfl rfl dX4_depthOfAll_4 ?_
    refine R.aload_n (j := 0) (i := 0) hc rfl rfl dX4_depthOfAll_5 ?_
    refine R.get hc gf_X4_33_r dX4_depthOfAll_6 (hS.obj) rfl ?_
    refine R.icmpN_ge (tgt := 27) hc dX4_depthOfAll_9 (by decide) (by omega) (by omega) (fun _ => ?_) (fun q => absurd (Nat.le_refl _) q)
    refine R.iload_n (j := 1) (i := 1) hc rfl rfl dX4_depthOfAll_27 ?_
    exact R.iret hc rfl dX4_depthOfAll_28 ⟨rfl, rfl, rfl⟩
  · refine R.iload_n (j := 2) (i := 2) hc rfl rfl dX4_depthOfAll_4 ?_
    refine R.aload_n (j := 0) (i := 0) hc rfl rfl dX4_depthOfAll_5 ?_
    refine R.get hc gf_X4_33_r dX4_depthOfAll_6 (hS.obj) rfl ?_
    refine R.icmpN_ge (tgt := 27) hc dX4_depthOfAll_9 (by decide) (by omega) (by omega) (fun q => absurd q (by omega)) (fun _ => ?_)
    refine R.iload_n (j := 1) (i := 1) hc rfl rfl dX4_depthOfAll_12 ?_
    refine R.aload_n (j := 0) (i := 0) hc rfl rfl dX4_depthOfAll_13 ?_
    refine R.get hc gf_X4_18_r dX4_depthOfAll_14 (hS.obj) rfl ?_
    refine R.iload_n (j := 2) (i := 2) hc rfl rfl dX4_depthOfAll_17 ?_
    refine R.ialdE hc dX4_depthOfAll_18 (hS.r2 (by omega)) (by omega) (by decide) ?_
    first | refine R.iaddN hc dX4_depthOfAll_19 ?_ | refine R.iadd hc dX4_depthOfAll_19 ?_
    refine R.istn1 hc dX4_depthOfAll_20 (by decide) rfl ?_
    refine R.iinc2 hc dX4_depthOfAll_21 (iiN1 _) (by decide) rfl ?_
    refine R.goto (tgt := 4) hc dX4_depthOfAll_24 (by decide) ?_
    exact ih
/-- who has claimed it, of the j people from person q on: his number, or none -/
def whoF (a : SA) (p : Nat) : Nat → Nat → Int32
  | 0, _ => -4
  | j + 1, q => if a 6 q = p + 1 then nI q else whoF a p j (q + 1)
theorem cI_eq {c p : Nat} (hc : c ≤ 1000) (hp : p ≤ 1000) : cI c = nI p ↔ c = p + 1 := by
  cases c with
  | zero =>
    simp only [cI]
    constructor
    · intro h
      exact absurd h.symm (nI_neg4 (by omega))
    · intro h
      omega
  | succ c =>
    simp only [cI]
    rw [nI_eq (by omega) (by omega)]
    omega
set_option maxHeartbeats 4000000 in
set_option maxRecDepth 100000 in
theorem c_X4_claimantOf (l : Launch) (d : Nat) (X : Nat × (Nat → Int32)) (n : Nat) {σ : Wd} {b : Nat} {a : SA} {np nq hr dr : Nat} (hS : St σ b a np nq hr dr) (hW : WF a np nq) {p : Nat} (hp : p < np) : CN l yX4_claimantOf cX4_claimantOf 3 (some .int) (d) X n [.ref b, .int (nI p)] σ (fun v σ' => v = some (.int (whoF a p nq 0)) ∧ σ' = σ) := by
  refine CN.of (by decide) [some (.ref b), some (.int (nI p)), none] (fun _ => Nat.le_of_ble_eq_true rfl) (fun _ => rfl) (fun cx hc => ?_)
  have hW1 := hW.1
  have hW2 := hW.2.1
  refine R.iconst hc ic_0 dX4_claimantOf_0 ?_
  refine R.istn2 hc dX4_claimantOf_1 (by decide) rfl ?_
  have key : ∀ j q, q + j = nq → whoF a p j q = whoF a p nq 0 → R cx 0 0 n σ 2 [some (.ref b), some (.int (nI p)), some (.int (nI q))] [] := by
    intro j
    induction j with
    | zero =>
      intro q hq e
      refine R.iload_n (j := 2) (i := 2) hc rfl rfl dX4_claimantOf_2 ?_
      refine R.aload_n (j := 0) (i := 0) hc rfl rfl dX4_claimantOf_3 ?_
      refine R.get hc gf_X4_37_r dX4_claimantOf_4 (hS.obj) rfl ?_
      refine R.icmpN_ge (tgt := 28) hc dX4_claimantOf_7 (by decide) (by omega) (by omega) (fun _ => ?_) (fun z => absurd (by omega) z)
      refine R.bipush hc bp_m4 dX4_claimantOf_28 ?_
      exact R.iret hc rfl dX4_claimantOf_30 ⟨rfl, by rw [← e]; rfl, rfl⟩
    | succ j ih =>
      intro q hq e
      have hq3 := hW.2.2.2.1 q (by omega)
      refine R.iload_n (j := 2) (i := 2) hc rfl rfl dX4_claimantOf_2 ?_
      refine R.aload_n (j := 0) (i := 0) hc rfl rfl dX4_claimantOf_3 ?_
      refine R.get hc gf_X4_37_r dX4_claimantOf_4 (hS.obj) rfl ?_
      refine R.icmpN_ge (tgt := 28) hc dX4_claimantOf_7 (by decide) (by omega) (by omega) (fun z => absurd z (by omega)) (fun _ => ?_)
      refine R.aload_n (j := 0) (i := 0) hc rfl rfl dX4_claimantOf_10 ?_
      refine R.get hc gf_X4_30_r dX4_claimantOf_11 (hS.obj) rfl ?_
      refine R.iload_n (j := 2) (i := 2) hc rfl rfl dX4_claimantOf_14 ?_
      refine R.ialdE hc dX4_claimantOf_15 (hS.r6 (by omega)) (by omega) (by decide) ?_
      refine R.iload_n (j := 1) (i := 1) hc rfl rfl dX4_claimantOf_16 ?_
      refine R.icmp_ne (tgt := 22) hc dX4_claimantOf_17 (by decide) (fun z => ?_) (fun z => ?_)
      · refine R.iinc2 hc dX4_claimantOf_22 (iiN1 _) (by decide) rfl ?_
        refine R.goto (tgt := 2) hc dX4_claimantOf_25 (by decide) ?_
        refine ih (q + 1) (by omega) ?_
        rw [← e, whoF, if_neg (fun h => z ((cI_eq (by omega) (by omega)).mpr h))]
      · refine R.iload_n (j := 2) (i := 2) hc rfl rfl dX4_claimantOf_20 ?_
        refine R.iret hc rfl dX4_claimantOf_21 ⟨rfl, ?_, rfl⟩
        rw [← e, whoF, if_pos ((cI_eq (by omega) (by omega)).mp z)]
  exact key nq 0 (by omega) rfl
theorem tb_nat {T p : Nat} (hT : T < 2 ^ 31) (hp : p < 31) : (nI (T / 2 ^ p &&& 1) = nI 0 ↔ T.testBit p = false) := by
  rw [nI_eq (Nat.lt_of_le_of_lt (Nat.and_le_right) (by decide)) (by decide)]
  rw [Nat.testBit, Nat.shiftRight_eq_div_pow, Nat.and_comm]
  rw [bne_eq_false_iff_eq]
set_option maxHeartbeats 4000000 in
set_option maxRecDepth 100000 in
theorem c_X4_isFit (l : Launch) (d : Nat) (X : Nat × (Nat → Int32)) (n : Nat) {σ : Wd} {b : Nat} {a : SA} {np nq hr dr : Nat} (hS : St σ b a np nq hr dr) (hW : WF a np nq) {p q T dep : Nat} (hp : p < np) (hq : q < nq) (hT : T < 2 ^ 31) (hdp : dep ≤ 60) : CN l yX4_isFit cX4_isFit 5 (some .boolean) (d) X n [.ref b, .int (nI p), .int (nI q), .int (nI T), .int (nI dep)] σ (fun v σ' => v = some (.int (b2 (fitB a T p q dep))) ∧ σ' = σ) := by
  refine CN.of (by decide) [some (.ref b), some (.int (nI p)), some (.int (nI q)), some (.int (nI T)), some (.int (nI dep))] (fun _ => Nat.le_of_ble_eq_true rfl) (fun _ => rfl) (fun cx hc => ?_)
  have hW1 := hW.1
  have hW2 := hW.2.1
  have hp3 := hW.2.2.1 p hp
  have hq3 := hW.2.2.2.1 q hq
  refine R.aload_n (j := 0) (i := 0) hc rfl rfl dX4_isFit_0 ?_
  refine R.get hc gf_X4_15_r dX4_isFit_1 (hS.obj) rfl ?_
  refine R.iload_n (j := 1) (i := 1) hc rfl rfl dX4_isFit_4 ?_
  refine R.ialdE hc dX4_isFit_5 (hS.r1 (by omega)) (by omega) (by decide) ?_
  refine R.aload_n (j := 0) (i := 0) hc rfl rfl dX4_isFit_6 ?_
  refine R.get hc gf_X4_21_r dX4_isFit_7 (hS.obj) rfl ?_
  refine R.iload_n (j := 2) (i := 2) hc rfl rfl dX4_isFit_10 ?_
  refine R.ialdE hc dX4_isFit_11 (hS.r3 (by omega)) (by omega) (by decide) ?_
  refine R.icmpN_ne (tgt := 38) hc dX4_isFit_12 (by decide) (by omega) (by omega) (fun h => ?_) (fun h1 => ?_)
  · refine R.iconst hc ic_0 dX4_isFit_38 ?_
    have e9 : nI 0 = b2 (fitB a T p q dep) := by
      simp [fitB, h, b2]; rfl
    exact R.bret hc rfl dX4_isFit_39 e9 ⟨rfl, congrArg (fun z => some (Value.int z)) e9, rfl⟩
  refine R.iload (i := 4) hc rfl dX4_isFit_15 ?_
  refine R.aload_n (j := 0) (i := 0) hc rfl rfl dX4_isFit_17 ?_
  refine R.get hc gf_X4_27_r dX4_isFit_18 (hS.obj) rfl ?_
  refine R.iload_n (j := 2) (i := 2) hc rfl rfl dX4_isFit_21 ?_
  refine R.ialdE hc dX4_isFit_22 (hS.r5 (by omega)) (by omega) (by decide) ?_
  refine R.icmpN_lt (tgt := 38) hc dX4_isFit_23 (by decide) (by omega) (by omega) (fun h => ?_) (fun h2 => ?_)
  · refine R.iconst hc ic_0 dX4_isFit_38 ?_
    have e9 : nI 0 = b2 (fitB a T p q dep) := by
      simp [fitB, show ¬ a 5 q ≤ dep by omega, b2]; rfl
    exact R.bret hc rfl dX4_isFit_39 e9 ⟨rfl, congrArg (fun z => some (Value.int z)) e9, rfl⟩
  refine R.iload_n (j := 3) (i := 3) hc rfl rfl dX4_isFit_26 ?_
  refine R.iload_n (j := 1) (i := 1) hc rfl rfl dX4_isFit_27 ?_
  first | refine R.ishrN hc (by omega) (by omega) dX4_isFit_28 ?_ | refine R.ishr hc dX4_isFit_28 ?_
  refine R.iconst hc ic_1 dX4_isFit_29 ?_
  first | refine R.iandN hc dX4_isFit_30 ?_ | refine R.iand hc dX4_isFit_30 ?_
  refine R.if_ne (tgt := 38) hc dX4_isFit_31 (by decide) (fun h => ?_) (fun h3 => ?_)
  · refine R.iconst hc ic_0 dX4_isFit_38 ?_
    have e9 : nI 0 = b2 (fitB a T p q dep) := by
      have h4 : T.testBit p = true := by cases z : T.testBit p; exact absurd ((tb_nat hT (by omega)).mpr z) h; rfl
      simp [fitB, h4, b2]; rfl
    exact R.bret hc rfl dX4_isFit_39 e9 ⟨rfl, congrArg (fun z => some (Value.int z)) e9, rfl⟩
  refine R.iconst hc ic_1 dX4_isFit_34 ?_
  refine R.goto (tgt := 39) hc dX4_isFit_35 (by decide) ?_
  have e9 : nI 1 = b2 (fitB a T p q dep) := by
    have h4 : T.testBit p = false := (tb_nat hT (by omega)).mp h3
    simp [fitB, h1, show a 5 q ≤ dep by omega, h4, b2]; rfl
  exact R.bret hc rfl dX4_isFit_39 e9 ⟨rfl, congrArg (fun z => some (Value.int z)) e9, rfl⟩
set_option maxHeartbeats 4000000 in
set_option maxRecDepth 100000 in
theorem c_X4_fitSet (l : Launch) (d : Nat) (X : Nat × (Nat → Int32)) (n : Nat) {σ : Wd} {b : Nat} {a : SA} {np nq hr dr : Nat} (hS : St σ b a np nq hr dr) (hW : WF a np nq) {q : Nat} (hq : q < nq) : CN l yX4_fitSet cX4_fitSet 5 (some .int) ((d + 2)) X n [.ref b, .int (nI q)] σ (fun v σ' => v = some (.int (nI (bsN (fun p => fitB a (clS a nq) p q (a 2 p)) np))) ∧ σ' = σ) := by
  refine CN.of (by decide) [some (.ref b), some (.int (nI q)), none, none, none] (fun _ => Nat.le_of_ble_eq_true rfl) (fun _ => rfl) (fun cx hc => ?_)
  have hW1 := hW.1
  have hW2 := hW.2.1
  have hT := clS_lt hW nq (Nat.le_refl _)
  refine R.aload_n (j := 0) (i := 0) hc rfl rfl dX4_fitSet_0 ?_
  refine R.cVr hc m_X4_claimedSet lk_X4_59 dX4_fitSet_1 (c_X4_claimedSet l d X n hS hW) (hS.obj) rfl rfl rfl (by omega) ⟨Nat.le_refl _, Nat.le_refl _⟩ (Nat.le_of_ble_eq_true rfl) ?_
  refine R.istn2 hc dX4_fitSet_4 (by decide) rfl ?_
  refine R.iconst hc ic_0 dX4_fitSet_5 ?_
  refine R.istn3 hc dX4_fitSet_6 (by decide) rfl ?_
  refine R.iconst hc ic_0 dX4_fitSet_7 ?_
  refine R.ist4 hc dX4_fitSet_8 (by decide) rfl ?_
  refine rl_down (P := fun p => R cx 0 0 n σ 10 [some (.ref b), some (.int (nI q)), some (.int (nI (clS a nq))), some (.int (nI (bsN (fun p => fitB a (clS a nq) p q (a 2 p)) p))), some (.int (nI p))] []) np ?_ (fun p hp ih => ?_) 0 (Nat.zero_le _)
  · refine R.iload (i := 4) hc rfl dX4_fitSet_10 ?_
    refine R.aload_n (j := 0) (i := 0) hc rfl rfl dX4_fitSet_12 ?_
    refine R.get hc gf_X4_33_r dX4_fitSet_13 (hS.obj) rfl ?_
    refine R.icmpN_ge (tgt := 54) hc dX4_fitSet_16 (by decide) (by omega) (by omega) (fun _ => ?_) (fun q => absurd (Nat.le_refl _) q)
    refine R.iload_n (j := 3) (i := 3) hc rfl rfl dX4_fitSet_54 ?_
    exact R.iret hc rfl dX4_fitSet_55 ⟨rfl, rfl, rfl⟩
  · have hp3 := hW.2.2.1 p hp
    refine R.iload (i := 4) hc rfl dX4_fitSet_10 ?_
    refine R.aload_n (j := 0) (i := 0) hc rfl rfl dX4_fitSet_12 ?_
    refine R.get hc gf_X4_33_r dX4_fitSet_13 (hS.obj) rfl ?_
    refine R.icmpN_ge (tgt := 54) hc dX4_fitSet_16 (by decide) (by omega) (by omega) (fun q => absurd q (by omega)) (fun _ => ?_)
    refine R.iload_n (j := 3) (i := 3) hc rfl rfl dX4_fitSet_19 ?_
    refine R.aload_n (j := 0) (i := 0) hc rfl rfl dX4_fitSet_20 ?_
    refine R.iload (i := 4) hc rfl dX4_fitSet_21 ?_
    refine R.iload_n (j := 1) (i := 1) hc rfl rfl dX4_fitSet_23 ?_
    refine R.iload_n (j := 2) (i := 2) hc rfl rfl dX4_fitSet_24 ?_
    refine R.aload_n (j := 0) (i := 0) hc rfl rfl dX4_fitSet_25 ?_
    refine R.get hc gf_X4_18_r dX4_fitSet_26 (hS.obj) rfl ?_
    refine R.iload (i := 4) hc rfl dX4_fitSet_29 ?_
    refine R.ialdE hc dX4_fitSet_31 (hS.r2 (by omega)) (by omega) (by decide) ?_
    refine R.cVr hc m_X4_isFit lk_X4_63 dX4_fitSet_32 (c_X4_isFit l (d + 1) X n hS hW (by omega) (by omega) (by omega) (by omega)) (hS.obj) rfl rfl rfl (by omega) ⟨Nat.le_refl _, Nat.le_refl _⟩ (Nat.le_of_ble_eq_true rfl) ?_
    refine R.ifB_eq (tgt := 45) hc dX4_fitSet_35 (by decide) (fun h => ?_) (fun h => ?_)
    · refine R.iconst hc ic_0 dX4_fitSet_45 ?_
      first | refine R.iorN hc dX4_fitSet_46 ?_ | refine R.ior hc dX4_fitSet_46 ?_
      refine R.istn3 hc dX4_fitSet_47 (by decide) rfl ?_
      refine R.iinc4 hc dX4_fitSet_48 (iiN1 _) (by decide) rfl ?_
      refine R.goto (tgt := 10) hc dX4_fitSet_51 (by decide) ?_
      have e : bsN (fun p => fitB a (clS a nq) p q (a 2 p)) (p + 1) = bsN (fun p => fitB a (clS a nq) p q (a 2 p)) p ||| 0 := by simp [bsN, h]
      rw [e] at ih
      exact ih
    · refine R.iconst hc ic_1 dX4_fitSet_38 ?_
      refine R.iload (i := 4) hc rfl dX4_fitSet_39 ?_
      first | refine R.shl1N hc (by omega) dX4_fitSet_41 ?_ | refine R.ishl hc dX4_fitSet_41 ?_
      refine R.goto (tgt := 46) hc dX4_fitSet_42 (by decide) ?_
      first | refine R.iorN hc dX4_fitSet_46 ?_ | refine R.ior hc dX4_fitSet_46 ?_
      refine R.istn3 hc dX4_fitSet_47 (by decide) rfl ?_
      refine R.iinc4 hc dX4_fitSet_48 (iiN1 _) (by decide) rfl ?_
      refine R.goto (tgt := 10) hc dX4_fitSet_51 (by decide) ?_
      have e : bsN (fun p => fitB a (clS a nq) p q (a 2 p)) (p + 1) = bsN (fun p => fitB a (clS a nq) p q (a 2 p)) p ||| 2 ^ p := by simp [bsN, h]
      rw [e] at ih
      exact ih
