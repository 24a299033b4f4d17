/-- the digits of a number, from the last -/
def lo (m N i : Nat) : Nat := N / m ^ i % m
theorem lnI_s1 : ∀ m, m < 100 → nI m - nI 1 = lnI m := by decide +kernel
theorem or_self_bit {T p : Nat} (h : T.testBit p = true) : T ||| 2 ^ p = T := by
  apply Nat.eq_of_testBit_eq
  intro i
  rw [Nat.testBit_or, Nat.testBit_two_pow]
  by_cases e : p = i
  · subst e; simp [h]
  · simp [e]
theorem stO_inj {l : Nat → Nat} : ∀ k, (∀ j, j < k → l j < 7) → pop (stO l k) ≤ k ∧ (pop (stO l k) = k → ∀ i j, i < k → j < k → l i = l j → i = j) := by
  intro k
  induction k with
  | zero =>
    intro _
    refine ⟨?_, fun _ i j hi => absurd hi (by omega)⟩
    rw [stO]; decide
  | succ k ih =>
    intro h
    obtain ⟨h1, h2⟩ := ih (fun j hj => h j (by omega))
    rw [stO]
    cases y : (stO l k).testBit (l k)
    · rw [pop_add _ (stO_lt (b := 7) k (fun j hj => h j (by omega))) (l k) (h k (by omega)) y]
      refine ⟨by omega, fun e i j hi hj eq => ?_⟩
      have hin := h2 (by omega)
      have hno : ∀ i, i < k → l i ≠ l k := fun i hi e => by
        have := (stO_bit (o := l) (l k) k).mpr ⟨i, hi, e⟩
        rw [this] at y
        exact absurd y (by decide)
      by_cases e1 : i = k
      · by_cases e2 : j = k
        · omega
        · rw [e1] at eq; exact absurd eq.symm (hno j (by omega))
      · by_cases e2 : j = k
        · rw [e2] at eq; exact absurd eq (hno i (by omega))
        · exact hin i j (by omega) (by omega) eq
    · rw [or_self_bit y]
      exact ⟨by omega, fun e => absurd e (by omega)⟩
theorem full_inj {l : Nat → Nat} {m : Nat} (hm : m ≤ 6) (hl : ∀ j, j < m → l j < m) : stO l m = 2 ^ m - 1 ↔ ∀ i j, i < m → j < m → l i = l j → i = j := by
  have h6 : stO l m < 2 ^ m := stO_lt m hl
  have h2 : 2 ^ m ≤ 64 := Nat.le_trans (Nat.pow_le_pow_right (by omega) hm) (by decide)
  rw [← pop_full m (by omega) _ (by omega) h6]
  exact ⟨(stO_inj m (fun j hj => by have := hl j hj; omega)).2, fun h => stO_pop m (fun j hj => by have := hl j hj; omega) h⟩
theorem cdo_lo {ρ : Nat → Nat} {m N : Nat} {o : Nat → Nat} (hN : N < m ^ m) (h : ∀ j, j < m → ρ (o j) = lo m N (m - 1 - j)) : ∀ L, L ≤ m → cdo ρ m o L = N / m ^ (m - L) := by
  intro L
  induction L with
  | zero => intro _; rw [cdo, Nat.sub_zero, Nat.div_eq_of_lt hN]
  | succ L ih =>
    intro hL
    rw [cdo, ih (by omega), h L (by omega), lo, show m - L = (m - 1 - L) + 1 by omega, Nat.pow_succ, ← Nat.div_div_eq_div_mul, show m - (L + 1) = m - 1 - L by omega, Nat.mul_comm, Nat.div_add_mod]
section OB
variable {W nq m N : Nat} {val : (Nat → Nat) → Nat} {bs s : Nat → Nat} {mo : Nat}
theorem ordN_prm (hs : ∀ j, j < m → W.testBit (s j) = true ∧ rk W (s j) = j) (hN : N < m ^ m) (hi : ∀ i j, i < m → j < m → lo m N i = lo m N j → i = j) : Prm W m (fun j => s (lo m N (m - 1 - j))) ∧ cdo (rk W) m (fun j => s (lo m N (m - 1 - j))) m = N := by
  have hl : ∀ j, j < m → lo m N (m - 1 - j) < m := fun j hj => Nat.mod_lt _ (by omega)
  refine ⟨⟨fun j hj => (hs _ (hl j hj)).1, fun i j hi' hj e => ?_⟩, ?_⟩
  · have e1 := (hs _ (hl i hi')).2
    have e2 := (hs _ (hl j hj)).2
    have e : s (lo m N (m - 1 - i)) = s (lo m N (m - 1 - j)) := e
    have := hi (m - 1 - i) (m - 1 - j) (by omega) (by omega) (by rw [← e1, ← e2, e])
    omega
  · rw [cdo_lo hN (fun j hj => (hs _ (hl j hj)).2) m (Nat.le_refl _), Nat.sub_self, Nat.pow_zero, Nat.div_one]
theorem ordN_same (hW : W < 2 ^ nq) (hm : rk W nq = m) (hs : ∀ j, j < m → W.testBit (s j) = true ∧ rk W (s j) = j) (hN : N < m ^ m) {o : Nat → Nat} (ho : Prm W m o) (hc : cdo (rk W) m o m = N) : ∀ j, j < m → o j = s (lo m N (m - 1 - j)) := by
  have hl : ∀ j, j < m → lo m N (m - 1 - j) < m := fun j hj => Nat.mod_lt _ (by omega)
  refine ho.same hW hm (Nat.le_refl _) (o' := fun j => s (lo m N (m - 1 - j))) (fun i hi => ⟨(hs _ (hl i hi)).1, by have := (hs _ (hl i hi)).2; show rk W (s (lo m N (m - 1 - i))) < m; rw [this]; exact hl i hi⟩) ?_
  rw [hc, cdo_lo hN (fun j hj => (hs _ (hl j hj)).2) m (Nat.le_refl _), Nat.sub_self, Nat.pow_zero, Nat.div_one]
theorem Bst.skip (hW : W < 2 ^ nq) (hm : rk W nq = m) (hs : ∀ j, j < m → W.testBit (s j) = true ∧ rk W (s j) = j) (hN : N < m ^ m) (hn : ¬ ∀ i j, i < m → j < m → lo m N i = lo m N j → i = j) (h : Bst W m val N bs mo) : Bst W m val (N + 1) bs mo := by
  refine h.up (Nat.le_succ _) (fun o ho h1 h2 => ?_)
  exfalso
  apply hn
  have hsm := ordN_same hW hm hs hN ho (by omega)
  intro i j hi hj e
  have e1 := hsm (m - 1 - i) (by omega)
  have e2 := hsm (m - 1 - j) (by omega)
  rw [show m - 1 - (m - 1 - i) = i by omega] at e1
  rw [show m - 1 - (m - 1 - j) = j by omega] at e2
  have := ho.2 (m - 1 - i) (m - 1 - j) (by omega) (by omega) (by rw [e1, e2, e])
  omega
theorem Bst.leave (hW : W < 2 ^ nq) (hm : rk W nq = m) (hval : ∀ o o', (∀ j, j < m → o j = o' j) → val o = val o') {o : Nat → Nat} (ho : Prm W m o) (hc : cdo (rk W) m o m = N) (hv : val o < mo) (h : Bst W m val N bs mo) : Bst W m val (N + 1) bs mo := by
  refine h.up (Nat.le_succ _) (fun o' ho' h1 h2 => ?_)
  rw [hval o' o (ho'.same hW hm (Nat.le_refl _) (fun i hi => ⟨ho.1 i hi, ho.rkl hW hm i hi⟩) (by omega))]
  exact hv
theorem Bst.take (hW : W < 2 ^ nq) (hm : rk W nq = m) (hval : ∀ o o', (∀ j, j < m → o j = o' j) → val o = val o') {o : Nat → Nat} (ho : Prm W m o) (hc : cdo (rk W) m o m = N) (hv : mo ≤ val o) (h : Bst W m val N bs mo) : Bst W m val (N + 1) o (val o + 1) := by
  refine ⟨fun o' ho' h1 => ?_, Or.inr ⟨ho, by omega, rfl, fun o' ho' h1 => ?_⟩⟩
  · rcases Nat.lt_or_ge (cdo (rk W) m o' m) N with y | y
    · have := h.1 o' ho' y; omega
    · rw [hval o' o (ho'.same hW hm (Nat.le_refl _) (fun i hi => ⟨ho.1 i hi, ho.rkl hW hm i hi⟩) (by omega))]
      exact Nat.lt_succ_self _
  · have := h.1 o' ho' (by omega); omega
end OB
set_option maxHeartbeats 4000000 in
set_option maxRecDepth 100000 in
theorem c_X7_isOrder (l : Launch) (d : Nat) (X : Nat × (Nat → Int32)) (n : Nat) {σ : Wd} {A : Nat → Nat → Int32} {L : Nat → Nat → Int64} {I : Nat → Int32} (hR : RW σ A L I) {m N : Nat} {s : Nat → Nat} (hm : m ≤ 6) (hNl : N < 2 ^ 31) (hs : ∀ j, j < m → A 8 j = nI (s j)) : CN l yX7_isOrder cX7_isOrder 6 (some .boolean) (d) X n [.ref 42, .int (nI N), .int (nI m)] σ (fun v σ' => v = some (.int (b2 (decide (stO (lo m N) m = 2 ^ m - 1)))) ∧ ∃ A', RW σ' A' L I ∧ (∀ k, k ≠ 9 → A' k = A k) ∧ (∀ j, j < m → A' 9 j = nI (s (lo m N (m - 1 - j)))) ∧ Eqo 42 17 σ σ') := by
  refine CN.of (by decide) [some (.ref 42), some (.int (nI N)), some (.int (nI m)), none, none, none] (fun _ => Nat.le_of_ble_eq_true rfl) (fun _ => rfl) (fun cx hc => ?_)
  have hF : Eqo 42 17 σ σ := Eqo.rf
  have hlo : ∀ j, 0 < m → lo m N j < m := fun j h => Nat.mod_lt _ h
  have h2m : 2 ^ m ≤ 64 := Nat.le_trans (Nat.pow_le_pow_right (by omega) hm) (by decide)
  have h2p := Nat.two_pow_pos m
  have hst : ∀ k, k ≤ m → stO (lo m N) k < 2 ^ m := fun k hk => stO_lt k (fun j hj => hlo j (by omega))
  obtain ⟨σ0, hσ0⟩ : ∃ z, z = σ := ⟨_, rfl⟩
  rw [← hσ0] at hc
  have hF : Eqo 42 17 σ0 σ := by rw [hσ0]; exact Eqo.rf
  refine R.iload_n (j := 1) (i := 1) hc rfl rfl dX7_isOrder_0 ?_
  refine R.istn3 hc dX7_isOrder_1 (by decide) rfl ?_
  refine R.iconst hc ic_0 dX7_isOrder_2 ?_
  refine R.ist4 hc dX7_isOrder_3 (by decide) rfl ?_
  refine R.iload_n (j := 2) (i := 2) hc rfl rfl dX7_isOrder_5 ?_
  refine R.iconst hc ic_1 dX7_isOrder_6 ?_
  refine R.isub hc dX7_isOrder_7 ?_
  rw [lnI_s1 m (by omega)]
  refine R.ist5 hc dX7_isOrder_8 (by decide) rfl ?_
  have key : ∀ (c : Nat), c ≤ m → ∀ (σ : Wd) (B : Nat → Nat → Int32), RW σ B L I → (∀ k, k ≠ 9 → B k = A k) → (∀ j, c ≤ j → j < m → B 9 j = nI (s (lo m N (m - 1 - j)))) → Eqo 42 17 σ0 σ → R cx 0 0 n σ 10 [some (.ref 42), some (.int (nI N)), some (.int (nI m)), some (.int (nI (N / m ^ (m - c)))), some (.int (nI (stO (lo m N) (m - c)))), some (.int (lnI c))] [] := by
    intro c
    induction c with
    | zero =>
      intro _ σ B hR hFr hO hF
      have h9 := hst m (Nat.le_refl _)
      refine R.iload (i := 5) hc rfl dX7_isOrder_10 ?_
      refine R.if_lt (tgt := 50) hc dX7_isOrder_12 (by decide) (fun _ => ?_) (fun z => absurd (by decide) z)
      rw [Nat.sub_zero]
      refine R.iload (i := 4) hc rfl dX7_isOrder_50 ?_
      refine R.iconst hc ic_1 dX7_isOrder_52 ?_
      refine R.iload_n (j := 2) (i := 2) hc rfl rfl dX7_isOrder_53 ?_
      first | refine R.shl1N hc (by omega) dX7_isOrder_54 ?_ | refine R.ishl hc dX7_isOrder_54 ?_
      refine R.iconst hc ic_1 dX7_isOrder_55 ?_
      first | refine R.isubN hc (by omega) dX7_isOrder_56 ?_ | refine R.isub hc dX7_isOrder_56 ?_
      refine R.icmpN_ne (tgt := 64) hc dX7_isOrder_57 (by decide) (by omega) (by omega) (fun z => ?_) (fun z => ?_)
      · refine R.iconst hc ic_0 dX7_isOrder_64 ?_
        have e9 : nI 0 = b2 (decide (stO (lo m N) m = 2 ^ m - 1)) := by
          simp [z, b2]; rfl
        exact R.bret hc rfl dX7_isOrder_65 e9 ⟨rfl, congrArg (fun z => some (Value.int z)) e9, ⟨B, hR, hFr, fun j hj => hO j (Nat.zero_le _) hj, hF⟩⟩
      · refine R.iconst hc ic_1 dX7_isOrder_60 ?_
        refine R.goto (tgt := 65) hc dX7_isOrder_61 (by decide) ?_
        have e9 : nI 1 = b2 (decide (stO (lo m N) m = 2 ^ m - 1)) := by
          simp [z, b2]; rfl
        exact R.bret hc rfl dX7_isOrder_65 e9 ⟨rfl, congrArg (fun z => some (Value.int z)) e9, ⟨B, hR, hFr, fun j hj => hO j (Nat.zero_le _) hj, hF⟩⟩
    | succ c ih =>
      intro hcm σ B hR hFr hO hF
      simp only [lnI]
      have hs9 : ∀ j, j < m → B 8 j = nI (s j) := fun j hj => by rw [hFr 8 (by omega)]; exact hs j hj
      have hl9 := hlo (m - (c + 1)) (by omega)
      have hl8 : N / m ^ (m - (c + 1)) % m < m := hl9
      have hdl : N / m ^ (m - (c + 1)) ≤ N := Nat.div_le_self _ _
      refine R.iload (i := 5) hc rfl dX7_isOrder_10 ?_
      refine R.ifN_lt (tgt := 50) hc dX7_isOrder_12 (by decide) (by omega) ?_
      refine R.aload_n (j := 0) (i := 0) hc rfl rfl dX7_isOrder_15 ?_
      refine R.get hc gf_X7_37_r dX7_isOrder_16 (hR.1) rfl ?_
      refine R.iload (i := 5) hc rfl dX7_isOrder_19 ?_
      refine R.aload_n (j := 0) (i := 0) hc rfl rfl dX7_isOrder_21 ?_
      refine R.get hc gf_X7_34_r dX7_isOrder_22 (hR.1) rfl ?_
      refine R.iload_n (j := 3) (i := 3) hc rfl rfl dX7_isOrder_25 ?_
      refine R.iload_n (j := 2) (i := 2) hc rfl rfl dX7_isOrder_26 ?_
      first | refine R.iremN hc (by omega) (by omega) (by omega) dX7_isOrder_27 ?_ | refine R.irem hc (by decide) dX7_isOrder_27 ?_
      refine R.ialdV hc hR.g8 (show lo m N (m - (c + 1)) < 6 by omega) (by decide) dX7_isOrder_28 (hs9 _ (hlo _ (by omega))) ?_
      refine R.iastG hc dX7_isOrder_29 hR.g9 (by omega) (by decide) (fun σ hX hE => ?_)
      have hR := hR.w9 hX hE
      have hF := hF.tr (hE.wid (by omega))
      refine R.iload (i := 4) hc rfl dX7_isOrder_30 ?_
      refine R.iconst hc ic_1 dX7_isOrder_32 ?_
      refine R.iload_n (j := 3) (i := 3) hc rfl rfl dX7_isOrder_33 ?_
      refine R.iload_n (j := 2) (i := 2) hc rfl rfl dX7_isOrder_34 ?_
      first | refine R.iremN hc (by omega) (by omega) (by omega) dX7_isOrder_35 ?_ | refine R.irem hc (by decide) dX7_isOrder_35 ?_
      first | refine R.shl1N hc (by omega) dX7_isOrder_36 ?_ | refine R.ishl hc dX7_isOrder_36 ?_
      first | refine R.iorN hc dX7_isOrder_37 ?_ | refine R.ior hc dX7_isOrder_37 ?_
      refine R.ist4 hc dX7_isOrder_38 (by decide) rfl ?_
      refine R.iload_n (j := 3) (i := 3) hc rfl rfl dX7_isOrder_40 ?_
      refine R.iload_n (j := 2) (i := 2) hc rfl rfl dX7_isOrder_41 ?_
      first | refine R.idivN hc (by omega) (by omega) (by omega) dX7_isOrder_42 ?_ | refine R.idiv hc (by decide) dX7_isOrder_42 ?_
      refine R.istn3 hc dX7_isOrder_43 (by decide) rfl ?_
      refine R.iinc5 hc dX7_isOrder_44 (lnI_dec c (by omega)) (by decide) rfl ?_
      refine R.goto (tgt := 10) hc dX7_isOrder_47 (by decide) ?_
      have e1 : N / m ^ (m - (c + 1)) / m = N / m ^ (m - c) := by rw [Nat.div_div_eq_div_mul, ← Nat.pow_succ, show (m - (c + 1)).succ = m - c by omega]
      have e2 : stO (lo m N) (m - (c + 1)) ||| 2 ^ (N / m ^ (m - (c + 1)) % m) = stO (lo m N) (m - c) := by rw [show m - c = (m - (c + 1)) + 1 by omega, stO]; rfl
      rw [e1, e2]
      refine ih (by omega) σ _ hR (fun k hk => by rw [A2_n hk]; exact hFr k hk) (fun j h1 h2 => ?_) hF
      rw [A2_s]
      by_cases e : j = c
      · rw [e, pk_us, show m - 1 - c = m - (c + 1) by omega]; rfl
      · rw [pk_un e]; exact hO j (by omega) h2
  have h0 := key m (Nat.le_refl _) σ A hR (fun _ _ => rfl) (fun j h1 h2 => absurd h2 (by omega)) hF
  rw [Nat.sub_self, Nat.pow_zero, Nat.div_one, stO] at h0
  exact h0
set_option maxHeartbeats 4000000 in
set_option maxRecDepth 100000 in
theorem c_X7_comesBy (l : Launch) (d : Nat) (X : Nat × (Nat → Int32)) (n : Nat) {σ : Wd} {A : Nat → Nat → Int32} {L : Nat → Nat → Int64} {I : Nat → Int32} (hR : RW σ A L I) {a : SA} {np nq hr dr : Nat} (hN : NowR (A 0) a np nq hr dr) (hW : WF a np nq) {m : Nat} {o : Nat → Nat} (hm : m ≤ 6) (ho : ∀ j, j < m → A 9 j = nI (o j) ∧ o j < nq) : CN l yX7_comesBy cX7_comesBy 3 none ((d + 1)) X n [.ref 42, .int (nI m)] σ (fun v σ' => v = none ∧ ∃ A', RW σ' A' L I ∧ NowR (A' 0) (cmA a o hr m) np nq hr dr ∧ (∀ k, k ≠ 0 → A' k = A k) ∧ Eqo 42 17 σ σ') := by
  refine CN.of (by decide) [some (.ref 42), some (.int (nI m)), none] (fun _ => Nat.le_of_ble_eq_true rfl) (fun _ => rfl) (fun cx hc => ?_)
  have hW1 := hW.1
  have hW2 := hW.2.1
  have hF : Eqo 42 17 σ σ := Eqo.rf
  obtain ⟨σ0, hσ0⟩ : ∃ z, z = σ := ⟨_, rfl⟩
  rw [← hσ0] at hc
  have hF : Eqo 42 17 σ0 σ := by rw [hσ0]; exact Eqo.rf
  refine R.iconst hc ic_0 dX7_comesBy_0 ?_
  refine R.istn2 hc dX7_comesBy_1 (by decide) rfl ?_
  refine rl_down (P := fun k => ∀ (σ : Wd) (B : Nat → Nat → Int32), RW σ B L I → NowR (B 0) (cmA a o hr k) np nq hr dr → (∀ k, k ≠ 0 → B k = A k) → Eqo 42 17 σ0 σ → R cx 0 0 n σ 2 [some (.ref 42), some (.int (nI m)), some (.int (nI k))] []) m (fun σ B hR hN hFr hF => ?_) (fun k hk ih σ B hR hN hFr hF => ?_) 0 (Nat.zero_le _) σ A hR hN (fun _ _ => rfl) hF
  · refine R.iload_n (j := 2) (i := 2) hc rfl rfl dX7_comesBy_2 ?_
    refine R.iload_n (j := 1) (i := 1) hc rfl rfl dX7_comesBy_3 ?_
    refine R.icmpN_ge (tgt := 32) hc dX7_comesBy_4 (by decide) (by omega) (by omega) (fun _ => ?_) (fun z => absurd (Nat.le_refl _) z)
    exact R.vret hc rfl dX7_comesBy_32 ⟨rfl, rfl, B, hR, hN, hFr, hF⟩
  · have hok := ho k hk
    rw [← hFr 9 (by omega)] at hok
    refine R.iload_n (j := 2) (i := 2) hc rfl rfl dX7_comesBy_2 ?_
    refine R.iload_n (j := 1) (i := 1) hc rfl rfl dX7_comesBy_3 ?_
    refine R.icmpN_ge (tgt := 32) hc dX7_comesBy_4 (by decide) (by omega) (by omega) (fun z => absurd z (by omega)) (fun _ => ?_)
    refine R.aload_n (j := 0) (i := 0) hc rfl rfl dX7_comesBy_7 ?_
    refine R.aload_n (j := 0) (i := 0) hc rfl rfl dX7_comesBy_8 ?_
    refine R.get hc gf_X7_37_r dX7_comesBy_9 (hR.1) rfl ?_
    refine R.iload_n (j := 2) (i := 2) hc rfl rfl dX7_comesBy_12 ?_
    refine R.ialdV hc hR.g9 (by omega) (by decide) dX7_comesBy_13 hok.1 ?_
    refine R.aload_n (j := 0) (i := 0) hc rfl rfl dX7_comesBy_14 ?_
    refine R.get hc gf_X7_7_r dX7_comesBy_15 (hR.1) rfl ?_
    refine R.iconst hc ic_2 dX7_comesBy_18 ?_
    refine R.ialdV hc hR.g0 (by omega) (by decide) dX7_comesBy_19 (hN.2.2.1) ?_
    refine R.iload_n (j := 2) (i := 2) hc rfl rfl dX7_comesBy_20 ?_
    first | refine R.iaddN hc dX7_comesBy_21 ?_ | refine R.iadd hc dX7_comesBy_21 ?_
    refine R.iconst hc ic_1 dX7_comesBy_22 ?_
    refine R.cVu hc m_X7_tells lk_X7_91 dX7_comesBy_23 (c_X7_tells l d X n hR (p := o k) (k := 1) (by omega) (by omega) _) (hR.1) rfl rfl rfl (by omega) ⟨Nat.le_refl _, Nat.le_refl _⟩ (Nat.le_of_ble_eq_true rfl) (fun σ hX => ?_)
    obtain ⟨hR, hE⟩ := hX
    have hF := hF.tr hE
    refine R.iinc2 hc dX7_comesBy_26 (iiN1 _) (by decide) rfl ?_
    refine R.goto (tgt := 2) hc dX7_comesBy_29 (by decide) ?_
    exact ih σ _ hR (by rw [A2_s]; exact hN.wq hW1 (k := 1) (by omega)) (fun k hk => by rw [A2_n hk]; exact hFr k hk) hF
set_option maxHeartbeats 4000000 in
set_option maxRecDepth 100000 in
theorem c_X7_order (l : Launch) (d : Nat) (X : Nat × (Nat → Int32)) (n : Nat) {σ : Wd} {a : SA} {np nq hr dr : Nat} {hs : List SN} {im : IM} {tp : Nat → Nat} {tl : Nat} {ln sz : Nat → Nat} {it : Nat → Nat → Int64} (hC : RA σ a np nq hr dr hs im tp tl ln sz it) (hI : WI a np nq hr dr hs im tp tl ln sz) (w k : Int32) : CN l yX7_order cX7_order 9 (some .int) ((d + 7)) X n [.ref 42, .int w, .int k] σ (fun r σ' => r = some (.int (s_order a np nq hr w k)) ∧ (RA σ' a np nq hr dr hs im tp tl ln sz it ∧ Eqo 42 17 σ σ')) := by
  refine CN.of (by decide) [some (.ref 42), some (.int w), some (.int k), none, none, none, none, none, none] (fun _ => Nat.le_of_ble_eq_true rfl) (fun _ => rfl) (fun cx hc => ?_)
  obtain ⟨A, L, I, hR, hS⟩ := hC
  obtain ⟨hW, hh, hdr, hwh, hwi, hU, hV⟩ := hI
  have hN := hS.n
  have hW1 := hW.1
  have hW2 := hW.2.1
  have hF : Eqo 42 17 σ σ := Eqo.rf
  refine R.iload_n (j := 1) (i := 1) hc rfl rfl dX7_order_0 ?_
  refine R.i2l hc dX7_order_1 ?_
  refine R.lconst (j := 1) (v := lN 1) hc rfl dX7_order_2 ?_
  refine R.ldc2 hc kn_X7_124 dX7_order_3 ?_
  refine R.cSr hc m_X7_in lk_X7_59 dX7_order_6 (c_X7_in l (d + 6) X n _ _ _) rfl rfl (by omega) ⟨Nat.le_refl _, Nat.le_refl _⟩ (Nat.le_of_ble_eq_true rfl) ?_
  rw [inL_R (by decide) (by decide)]
  refine R.ifB_eq (tgt := 17) hc dX7_order_9 (by decide) (fun q1 => ?_) (fun q1 => ?_)
  · refine R.iconst hc ic_m1 dX7_order_17 ?_
    have e9 : (-1) = s_order a np nq hr w k := by simp [s_order, q1]
    exact R.iret hc rfl dX7_order_18 ⟨rfl, congrArg (fun z => some (Value.int z)) e9, ⟨A, L, I, hR, hS⟩, hF⟩
  refine R.iload_n (j := 2) (i := 2) hc rfl rfl dX7_order_12 ?_
  refine R.iconst hc ic_m1 dX7_order_13 ?_
  refine R.icmp_ge (tgt := 19) hc dX7_order_14 (by decide) (fun q2 => ?_) (fun q2 => ?_)
  rotate_left
  · refine R.iconst hc ic_m1 dX7_order_17 ?_
    have e9 : (-1) = s_order a np nq hr w k := by simp [s_order, q2]
    exact R.iret hc rfl dX7_order_18 ⟨rfl, congrArg (fun z => some (Value.int z)) e9, ⟨A, L, I, hR, hS⟩, hF⟩
  obtain ⟨i1, rfl, _, g1, t1⟩ := inR_of (by decide) (by decide) q1
  have hA : s_order a np nq hr (nI i1) k = (if k = (-1) then lnI (ordC a np nq hr i1).2.2 else if inI k (pop (wtS a nq)) then nI ((ordC a np nq hr i1).2.1 (tN k)) else -4) := by simp [s_order, q1, t1, q2]
  rw [hA] at hc
  obtain ⟨m, hmm⟩ : ∃ z, z = pop (wtS a nq) := ⟨_, rfl⟩
  have hm6 : m ≤ 6 := by rw [hmm]; exact pop_6 _ (wtS_lt hW2)
  have hrk : rk (wtS a nq) nq = m := by rw [hmm]; exact rk_wtS hW2
  have hWl : wtS a nq < 2 ^ nq := wtS_lt2
  have hWb : ∀ q, q < nq → ((wtS a nq).testBit q = true ↔ a 6 q = 0) := fun q hq => by rw [wtS_bit hW2]; simp [hq, hasC]
  have hval : ∀ o o' : Nat → Nat, (∀ j, j < m → o j = o' j) → ordV a np nq hr i1 o = ordV a np nq hr i1 o' := fun o o' h => by unfold ordV; rw [vlo_ext _ (by rw [← hmm]; exact h)]
  have hvl : ∀ o, Prm (wtS a nq) m o → pop (bsN (hasC (hoursN (cmA a o hr m) np nq hr i1)) nq) = ordV a np nq hr i1 o := fun o ho => by rw [hmm] at ho ⊢; exact ord_val hW ho
  have hun : ∀ {bs mo}, Bst (wtS a nq) m (ordV a np nq hr i1) (m ^ m) bs mo → mo = (ordC a np nq hr i1).2.2 ∧ ∀ j, j < m → bs j = (ordC a np nq hr i1).2.1 j := fun h => by rw [hmm] at h ⊢; exact ord_uniq hW2 h
  rw [← hmm] at hc
  obtain ⟨W, hWW⟩ : ∃ z, z = wtS a nq := ⟨_, rfl⟩
  rw [← hWW] at hrk hWl hWb
  simp only [← hWW] at hvl hun
  obtain ⟨σ0, hσ0⟩ : ∃ z, z = σ := ⟨_, rfl⟩
  rw [← hσ0] at hc
  have hF : Eqo 42 17 σ0 σ := by rw [hσ0]; exact Eqo.rf
  refine R.iconst hc ic_0 dX7_order_19 ?_
  refine R.istn3 hc dX7_order_20 (by decide) rfl ?_
  refine R.iconst hc ic_1 dX7_order_21 ?_
  refine R.ist4 hc dX7_order_22 (by decide) rfl ?_
  refine R.iconst hc ic_0 dX7_order_24 ?_
  refine R.ist5 hc dX7_order_25 (by decide) rfl ?_
  refine rl_down (P := fun i => ∀ (σ : Wd) (B : Nat → Nat → Int32), RW σ B L I → (∃ s : Nat → Nat, ∀ j, j < rk W i → B 8 j = nI (s j) ∧ W.testBit (s j) = true ∧ rk W (s j) = j) → (∀ k, k ≠ 8 → B k = A k) → Eqo 42 17 σ0 σ → R cx 0 0 n σ 27 [some (.ref 42), some (.int (nI i1)), some (.int k), some (.int (nI (rk W i))), some (.int (nI 1)), some (.int (nI i)), none, none, none] []) nq (fun σ B hR hs hFr hF => ?_) (fun i hi ih σ B hR hs hFr hF => ?_) 0 (Nat.zero_le _) σ A hR ⟨fun _ => 0, fun j hj => absurd hj (by rw [rk]; omega)⟩ (fun _ _ => rfl) hF
  rotate_left
  · have hN : NowR (B 0) a np nq hr dr := by rw [hFr 0 (by omega)]; exact hN
    have g6 := (hW.2.2.2.1 i hi).2.2.2
    have hr6 : rk W i ≤ i := by
      have : ∀ q, rk W q ≤ q := by
        intro q
        induction q with
        | zero => exact Nat.le_refl _
        | succ q ih => rw [rk]; split <;> omega
      exact this i
    rw [rk] at ih
    refine R.iload (i := 5) hc rfl dX7_order_27 ?_
    refine R.aload_n (j := 0) (i := 0) hc rfl rfl dX7_order_29 ?_
    refine R.get hc gf_X7_7_r dX7_order_30 (hR.1) rfl ?_
    refine R.iconst hc ic_1 dX7_order_33 ?_
    refine R.ialdV hc hR.g0 (by omega) (by decide) dX7_order_34 (hN.2.1) ?_
    refine R.icmpN_ge (tgt := 66) hc dX7_order_35 (by decide) (by omega) (by omega) (fun z => absurd z (by omega)) (fun _ => ?_)
    refine R.aload_n (j := 0) (i := 0) hc rfl rfl dX7_order_38 ?_
    refine R.iload (i := 5) hc rfl dX7_order_39 ?_
    refine R.cVr hc m_X7_claimed lk_X7_70 dX7_order_41 (n_X7_claimed l (d + 5) X n hR hN hW (by omega)) (hR.1) rfl rfl rfl (by omega) ⟨Nat.le_refl _, Nat.le_refl _⟩ (Nat.le_of_ble_eq_true rfl) ?_
    refine R.bipush hc bp_m4 dX7_order_44 ?_
    refine R.icmp_ne (tgt := 60) hc dX7_order_46 (by decide) (fun z => ?_) (fun z => ?_)
    · rw [if_neg (fun y => z ((cI_n4 (by omega)).mpr ((hWb i hi).mp y))), Nat.add_zero] at ih
      refine R.iinc5 hc dX7_order_60 (iiN1 _) (by decide) rfl ?_
      refine R.goto (tgt := 27) hc dX7_order_63 (by decide) ?_
      exact ih σ B hR hs hFr hF
    · have hWi := (hWb i hi).mpr ((cI_n4 (by omega)).mp z)
      rw [if_pos hWi] at ih
      refine R.aload_n (j := 0) (i := 0) hc rfl rfl dX7_order_49 ?_
      refine R.get hc gf_X7_34_r dX7_order_50 (hR.1) rfl ?_
      refine R.iload_n (j := 3) (i := 3) hc rfl rfl dX7_order_53 ?_
      refine R.iload (i := 5) hc rfl dX7_order_54 ?_
      refine R.iastG hc dX7_order_56 hR.g8 (by omega) (by decide) (fun σ hX hE => ?_)
      have hR := hR.w8 hX hE
      have hF := hF.tr (hE.wid (by omega))
      refine R.iinc3 hc dX7_order_57 (iiN1 _) (by decide) rfl ?_
      refine R.iinc5 hc dX7_order_60 (iiN1 _) (by decide) rfl ?_
      refine R.goto (tgt := 27) hc dX7_order_63 (by decide) ?_
      obtain ⟨s, hs⟩ := hs
      refine ih σ _ hR ⟨un s (rk W i) i, fun j hj => ?_⟩ (fun k hk => by rw [A2_n hk]; exact hFr k hk) hF
      rw [A2_s, un]
      by_cases e : j = rk W i
      · rw [e, pk_us, if_pos rfl]; exact ⟨rfl, hWi, rfl⟩
      · rw [pk_un e, if_neg e]; exact hs j (by omega)
  rw [hrk] at hs ⊢
  obtain ⟨s, hs⟩ := hs
  have hss : ∀ j, j < m → W.testBit (s j) = true ∧ rk W (s j) = j := fun j hj => (hs j hj).2
  have hs8 : ∀ j, j < m → B 8 j = nI (s j) := fun j hj => (hs j hj).1
  have hN : NowR (B 0) a np nq hr dr := by rw [hFr 0 (by omega)]; exact hN
  refine R.iload (i := 5) hc rfl dX7_order_27 ?_
  refine R.aload_n (j := 0) (i := 0) hc rfl rfl dX7_order_29 ?_
  refine R.get hc gf_X7_7_r dX7_order_30 (hR.1) rfl ?_
  refine R.iconst hc ic_1 dX7_order_33 ?_
  refine R.ialdV hc hR.g0 (by omega) (by decide) dX7_order_34 (hN.2.1) ?_
  refine R.icmpN_ge (tgt := 66) hc dX7_order_35 (by decide) (by omega) (by omega) (fun _ => ?_) (fun z => absurd (Nat.le_refl _) z)
  refine R.iconst hc ic_0 dX7_order_66 ?_
  refine R.ist5 hc dX7_order_67 (by decide) rfl ?_
  have hmm6 : m ^ m ≤ 46656 := Nat.le_trans (Nat.pow_le_pow_left hm6 m) (Nat.le_trans (Nat.pow_le_pow_right (by omega) hm6) (by decide))
  refine rl_down (P := fun t => R cx 0 0 n σ 69 [some (.ref 42), some (.int (nI i1)), some (.int k), some (.int (nI m)), some (.int (nI (m ^ t))), some (.int (nI t)), none, none, none] []) m ?_ (fun t ht ih => ?_) 0 (Nat.zero_le _)
  rotate_left
  · rw [Nat.pow_succ] at ih
    refine R.iload (i := 5) hc rfl dX7_order_69 ?_
    refine R.iload_n (j := 3) (i := 3) hc rfl rfl dX7_order_71 ?_
    refine R.icmpN_ge (tgt := 87) hc dX7_order_72 (by decide) (by omega) (by omega) (fun z => absurd z (by omega)) (fun _ => ?_)
    refine R.iload (i := 4) hc rfl dX7_order_75 ?_
    refine R.iload_n (j := 3) (i := 3) hc rfl rfl dX7_order_77 ?_
    first | refine R.imulN hc dX7_order_78 ?_ | refine R.imul hc dX7_order_78 ?_
    refine R.ist4 hc dX7_order_79 (by decide) rfl ?_
    refine R.iinc5 hc dX7_order_81 (iiN1 _) (by decide) rfl ?_
    refine R.goto (tgt := 69) hc dX7_order_84 (by decide) ?_
    exact ih
  refine R.iload (i := 5) hc rfl dX7_order_69 ?_
  refine R.iload_n (j := 3) (i := 3) hc rfl rfl dX7_order_71 ?_
  refine R.icmpN_ge (tgt := 87) hc dX7_order_72 (by decide) (by omega) (by omega) (fun _ => ?_) (fun z => absurd (Nat.le_refl _) z)
  have hFr9 := hFr
  refine R.iconst hc ic_m1 dX7_order_87 ?_
  refine R.ist5 hc dX7_order_88 (by decide) rfl ?_
  refine R.aload_n (j := 0) (i := 0) hc rfl rfl dX7_order_90 ?_
  refine R.cVu hc m_X7_asides lk_X7_204 dX7_order_91 (c_X7_asides l (d + 6) X n hR) (hR.1) rfl rfl rfl (by omega) ⟨Nat.le_refl _, Nat.le_refl _⟩ (Nat.le_of_ble_eq_true rfl) (fun σ hX => ?_)
  obtain ⟨C, hR, hB, hCk, hE⟩ := hX
  have hF := hF.tr hE
  have hFr : ∀ k, k = 2 ∨ k = 5 ∨ 11 ≤ k → C k = A k := fun k hk => (hCk k (by omega)).trans (hFr k (by omega))
  have hB : ∀ j, j < 49 → C 6 j = A 0 j := fun j hj => by rw [hB j hj, hFr9 0 (by omega)]
  have hN0 : ∀ j, j < 49 → C 0 j = A 0 j := fun j hj => by rw [hCk 0 (by omega), hFr9 0 (by omega)]
  have hs8 : ∀ j, j < m → C 8 j = nI (s j) := fun j hj => by rw [hCk 8 (by omega)]; exact hs8 j hj
  refine R.iconst hc ic_0 dX7_order_94 ?_
  refine R.ist6 hc dX7_order_95 (by decide) rfl ?_
  refine rl_down (P := fun N => ∀ (σ : Wd) (B : Nat → Nat → Int32) (bs : Nat → Nat) (mo : Nat), RW σ B L I → (∀ j, j < 49 → B 0 j = A 0 j) → (∀ j, j < 49 → B 6 j = A 0 j) → (∀ k, k = 2 ∨ k = 5 ∨ 11 ≤ k → B k = A k) → (∀ j, j < m → B 8 j = nI (s j)) → (∀ j, j < m → B 10 j = nI (bs j)) → Bst W m (ordV a np nq hr i1) N bs mo → mo ≤ 7 → Eqo 42 17 σ0 σ → R cx 0 0 n σ 97 [some (.ref 42), some (.int (nI i1)), some (.int k), some (.int (nI m)), some (.int (nI (m ^ m))), some (.int (lnI mo)), some (.int (nI N)), none, none] []) (m ^ m) (fun σ B bs mo hR hN0 hB hFr hs8 hb10 hbst hmo hF => ?_) (fun N hNm ih σ B bs mo hR hN0 hB hFr hs8 hb10 hbst hmo hF => ?_) 0 (Nat.zero_le _) σ C (fun j => uN (C 10 j)) 0 hR hN0 hB hFr hs8 (fun j _ => (nI_uN _).symm) ⟨fun o _ h => absurd h (Nat.not_lt_zero _), Or.inl rfl⟩ (by omega) hF
  · obtain ⟨e1, e2⟩ := hun hbst
    refine R.iload (i := 6) hc rfl dX7_order_97 ?_
    refine R.iload (i := 4) hc rfl dX7_order_99 ?_
    refine R.icmpN_ge (tgt := 195) hc dX7_order_101 (by decide) (by omega) (by omega) (fun _ => ?_) (fun z => absurd (Nat.le_refl _) z)
    refine R.iload_n (j := 2) (i := 2) hc rfl rfl dX7_order_195 ?_
    refine R.if_ge (tgt := 204) hc dX7_order_196 (by decide) (fun z => ?_) (fun z => ?_)
    · have z : ¬ k < 0 := Int32.not_lt.mpr z
      obtain ⟨j, hj9, rfl⟩ := nI_of z
      rw [if_neg (show ¬ nI j = (-1) from fun y => z (by rw [y]; decide))] at hc
      refine R.iload_n (j := 2) (i := 2) hc rfl rfl dX7_order_204 ?_
      refine R.iload_n (j := 3) (i := 3) hc rfl rfl dX7_order_205 ?_
      refine R.icmpN_ge (tgt := 218) hc dX7_order_206 (by decide) (by omega) (by omega) (fun y => ?_) (fun y => ?_)
      · have hin : inI (nI j) m = false := by
          cases u : inI (nI j) m
          · rfl
          · obtain ⟨i, h1, h2, h3⟩ := inI_tN (by omega) u
            rw [tN_nI hj9] at h3
            omega
        rw [hin, if_neg (by decide)] at hc
        refine R.bipush hc bp_m4 dX7_order_218 ?_
        exact R.iret hc rfl dX7_order_220 ⟨rfl, rfl, ⟨B, L, I, hR, hS.q hW1 hW2 hN0 hFr⟩, hF⟩
      · have hj : j < m := by omega
        have hin : inI (nI j) m = true := by
          unfold inI
          exact decide_eq_true ⟨z, (nI_ltI hj9 (by omega)).mpr hj⟩
        rw [hin, if_pos rfl, tN_nI hj9, ← e2 j hj] at hc
        refine R.aload_n (j := 0) (i := 0) hc rfl rfl dX7_order_209 ?_
        refine R.get hc gf_X7_40_r dX7_order_210 (hR.1) rfl ?_
        refine R.iload_n (j := 2) (i := 2) hc rfl rfl dX7_order_213 ?_
        refine R.ialdV hc hR.g10 (by omega) (by decide) dX7_order_214 (hb10 j hj) ?_
        refine R.goto (tgt := 220) hc dX7_order_215 (by decide) ?_
        exact R.iret hc rfl dX7_order_220 ⟨rfl, rfl, ⟨B, L, I, hR, hS.q hW1 hW2 hN0 hFr⟩, hF⟩
    · have z : k < 0 := Int32.not_le.mp z
      have hk1 : k = (-1) := by
        have h1 := Int32.le_iff_toInt_le.mp q2
        have h2 := lt0_toInt.mp z
        have h3 : (-1 : Int32).toInt = -1 := by decide
        exact Int32.toInt_inj.mp (by omega)
      rw [if_pos hk1, ← e1] at hc
      refine R.iload (i := 5) hc rfl dX7_order_199 ?_
      refine R.goto (tgt := 220) hc dX7_order_201 (by decide) ?_
      exact R.iret hc rfl dX7_order_220 ⟨rfl, rfl, ⟨B, L, I, hR, hS.q hW1 hW2 hN0 hFr⟩, hF⟩
  · have hN : NowR (B 0) a np nq hr dr := hS.n.ag hW1 hW2 hN0
    have hlo : ∀ j, j < m → lo m N j < m := fun j hj => Nat.mod_lt _ (by omega)
    refine R.iload (i := 6) hc rfl dX7_order_97 ?_
    refine R.iload (i := 4) hc rfl dX7_order_99 ?_
    refine R.icmpN_ge (tgt := 195) hc dX7_order_101 (by decide) (by omega) (by omega) (fun z => absurd z (by omega)) (fun _ => ?_)
    refine R.aload_n (j := 0) (i := 0) hc rfl rfl dX7_order_104 ?_
    refine R.iload (i := 6) hc rfl dX7_order_105 ?_
    refine R.iload_n (j := 3) (i := 3) hc rfl rfl dX7_order_107 ?_
    refine R.cVi hc m_X7_isOrder lk_X7_213 dX7_order_108 (c_X7_isOrder l (d + 6) X n hR hm6 (by omega) hs8) (hR.1) rfl rfl rfl (by omega) ⟨Nat.le_refl _, Nat.le_refl _⟩ (Nat.le_of_ble_eq_true rfl) (fun σ hX => ?_)
    obtain ⟨C, hR, hCk, hO, hE⟩ := hX
    have hF := hF.tr hE
    have hB : ∀ j, j < 49 → C 6 j = A 0 j := fun j hj => by rw [hCk 6 (by omega)]; exact hB j hj
    have hFr : ∀ k, k = 2 ∨ k = 5 ∨ 11 ≤ k → C k = A k := fun k hk => (hCk k (by omega)).trans (hFr k hk)
    have hN0 : ∀ j, j < 49 → C 0 j = A 0 j := fun j hj => by rw [hCk 0 (by omega)]; exact hN0 j hj
    have hN : NowR (C 0) a np nq hr dr := hS.n.ag hW1 hW2 hN0
    have hs8 : ∀ j, j < m → C 8 j = nI (s j) := fun j hj => by rw [hCk 8 (by omega)]; exact hs8 j hj
    have hb10 : ∀ j, j < m → C 10 j = nI (bs j) := fun j hj => by rw [hCk 10 (by omega)]; exact hb10 j hj
    refine R.ifB_eq (tgt := 189) hc dX7_order_111 (by decide) (fun z => ?_) (fun z => ?_)
    · have z := of_decide_eq_false z
      rw [full_inj hm6 hlo] at z
      refine R.iinc6 hc dX7_order_189 (iiN1 _) (by decide) rfl ?_
      refine R.goto (tgt := 97) hc dX7_order_192 (by decide) ?_
      exact ih σ C bs mo hR hN0 hB hFr hs8 hb10 (hbst.skip hWl hrk hss hNm z) hmo hF
    · have z := of_decide_eq_true z
      rw [full_inj hm6 hlo] at z
      obtain ⟨hprm, hcod⟩ := ordN_prm hss hNm z
      have hoq : ∀ j, j < m → C 9 j = nI (s (lo m N (m - 1 - j))) ∧ s (lo m N (m - 1 - j)) < nq := fun j hj => ⟨hO j hj, bit_lt hWl (hprm.1 j hj)⟩
      refine R.aload_n (j := 0) (i := 0) hc rfl rfl dX7_order_114 ?_
      refine R.iload_n (j := 3) (i := 3) hc rfl rfl dX7_order_115 ?_
      refine R.cVu hc m_X7_comesBy lk_X7_216 dX7_order_116 (c_X7_comesBy l (d + 5) X n hR hN hW (o := fun j => s (lo m N (m - 1 - j))) hm6 hoq) (hR.1) rfl rfl rfl (by omega) ⟨Nat.le_refl _, Nat.le_refl _⟩ (Nat.le_of_ble_eq_true rfl) (fun σ hX => ?_)
      obtain ⟨C, hR, hN, hCk, hE⟩ := hX
      have hF := hF.tr hE
      have hB : ∀ j, j < 49 → C 6 j = A 0 j := fun j hj => by rw [hCk 6 (by omega)]; exact hB j hj
      have hFr : ∀ k, k = 2 ∨ k = 5 ∨ 11 ≤ k → C k = A k := fun k hk => (hCk k (by omega)).trans (hFr k hk)
      have hs8 : ∀ j, j < m → C 8 j = nI (s j) := fun j hj => by rw [hCk 8 (by omega)]; exact hs8 j hj
      have hb10 : ∀ j, j < m → C 10 j = nI (bs j) := fun j hj => by rw [hCk 10 (by omega)]; exact hb10 j hj
      have hO : ∀ j, j < m → C 9 j = nI (s (lo m N (m - 1 - j))) := fun j hj => by rw [hCk 9 (by omega)]; exact hO j hj
      refine R.aload_n (j := 0) (i := 0) hc rfl rfl dX7_order_119 ?_
      refine R.iload_n (j := 1) (i := 1) hc rfl rfl dX7_order_120 ?_
      refine R.cVu hc m_X7_goesOn lk_X7_207 dX7_order_121 (c_X7_goesOn l d X n hR hN (WF_cmA hW hh m hm6) (by omega) (by omega)) (hR.1) rfl rfl rfl (by omega) ⟨Nat.le_refl _, Nat.le_refl _⟩ (Nat.le_of_ble_eq_true rfl) (fun σ hX => ?_)
      obtain ⟨C, hR, hN, hCk, hE⟩ := hX
      have hF := hF.tr hE
      have hB : ∀ j, j < 49 → C 6 j = A 0 j := fun j hj => by rw [hCk 6 (by omega)]; exact hB j hj
      have hFr : ∀ k, k = 2 ∨ k = 5 ∨ 11 ≤ k → C k = A k := fun k hk => (hCk k (by omega)).trans (hFr k hk)
      have hs8 : ∀ j, j < m → C 8 j = nI (s j) := fun j hj => by rw [hCk 8 (by omega)]; exact hs8 j hj
      have hb10 : ∀ j, j < m → C 10 j = nI (bs j) := fun j hj => by rw [hCk 10 (by omega)]; exact hb10 j hj
      have hO : ∀ j, j < m → C 9 j = nI (s (lo m N (m - 1 - j))) := fun j hj => by rw [hCk 9 (by omega)]; exact hO j hj
      refine R.aload_n (j := 0) (i := 0) hc rfl rfl dX7_order_124 ?_
      refine R.cVr hc m_X7_servedNow lk_X7_142 dX7_order_125 (c_X7_servedNow l (d + 4) X n hR hN (WF_hoursN (WF_cmA hW hh m hm6) _)) (hR.1) rfl rfl rfl (by omega) ⟨Nat.le_refl _, Nat.le_refl _⟩ (Nat.le_of_ble_eq_true rfl) ?_
      refine R.cSr hc m_X7_many lk_X7_219 dX7_order_128 (c_X7_many l (d + 6) X n (Nat.lt_of_lt_of_le (bsN_lt _ _) (Nat.pow_le_pow_right (by omega) (by omega : nq ≤ 7)))) rfl rfl (by omega) ⟨Nat.le_refl _, Nat.le_refl _⟩ (Nat.le_of_ble_eq_true rfl) ?_
      rw [hvl _ hprm]
      refine R.ist7 hc dX7_order_131 (by decide) rfl ?_
      refine R.aload_n (j := 0) (i := 0) hc rfl rfl dX7_order_133 ?_
      refine R.cVu hc m_X7_backs lk_X7_210 dX7_order_134 (c_X7_backs l (d + 6) X n hR) (hR.1) rfl rfl rfl (by omega) ⟨Nat.le_refl _, Nat.le_refl _⟩ (Nat.le_of_ble_eq_true rfl) (fun σ hX => ?_)
      obtain ⟨B, hR, hB0, hBk, hE⟩ := hX
      have hF := hF.tr hE
      have hN0 : ∀ j, j < 49 → B 0 j = A 0 j := fun j hj => (hB0 j hj).trans (hB j hj)
      have hN : NowR (B 0) a np nq hr dr := hS.n.ag hW1 hW2 hN0
      have hB : ∀ j, j < 49 → B 6 j = A 0 j := fun j hj => by rw [hBk 6 (by omega)]; exact hB j hj
      have hFr : ∀ k, k = 2 ∨ k = 5 ∨ 11 ≤ k → B k = A k := fun k hk => (hBk k (by omega)).trans (hFr k hk)
      have hs8 : ∀ j, j < m → B 8 j = nI (s j) := fun j hj => by rw [hBk 8 (by omega)]; exact hs8 j hj
      have hb10 : ∀ j, j < m → B 10 j = nI (bs j) := fun j hj => by rw [hBk 10 (by omega)]; exact hb10 j hj
      have hO : ∀ j, j < m → B 9 j = nI (s (lo m N (m - 1 - j))) := fun j hj => by rw [hBk 9 (by omega)]; exact hO j hj
      have hv6 : ordV a np nq hr i1 (fun j => s (lo m N (m - 1 - j))) ≤ 6 := by rw [← hvl _ hprm]; exact pop_le _ (Nat.lt_of_lt_of_le (bsN_lt _ _) (Nat.pow_le_pow_right (by omega) hW2))
      obtain ⟨o9, ho9⟩ : ∃ z, z = fun j => s (lo m N (m - 1 - j)) := ⟨_, rfl⟩
      have hO : ∀ j, j < m → B 9 j = nI (o9 j) := fun j hj => by rw [ho9]; exact hO j hj
      rw [← ho9] at hprm hcod hv6 ⊢
      obtain ⟨ow, how⟩ : ∃ z, z = ordV a np nq hr i1 o9 := ⟨_, rfl⟩
      rw [← how] at hv6 ⊢
      have hle := lnI_le9 mo (by omega) ow (by omega)
      refine R.iconst hc ic_0 dX7_order_137 ?_
      refine R.ist8 hc dX7_order_138 (by decide) rfl ?_
      by_cases hmw : mo ≤ ow
      · have hgt : ¬ nI ow ≤ lnI mo := fun y => hle.mp y hmw
        refine rl_down (P := fun t => ∀ (σ : Wd) (D : Nat → Nat → Int32), RW σ D L I → (∀ k, k ≠ 10 → D k = B k) → (∀ j, j < t → D 10 j = nI (o9 j)) → Eqo 42 17 σ0 σ → R cx 0 0 n σ 140 [some (.ref 42), some (.int (nI i1)), some (.int k), some (.int (nI m)), some (.int (nI (m ^ m))), some (.int (lnI mo)), some (.int (nI N)), some (.int (nI ow)), some (.int (nI t))] []) m (fun σ D hR hDk hD10 hF => ?_) (fun t ht iht σ D hR hDk hD10 hF => ?_) 0 (Nat.zero_le _) σ B hR (fun _ _ => rfl) (fun j hj => absurd hj (by omega)) hF
        · refine R.iload (i := 8) hc rfl dX7_order_140 ?_
          refine R.iload_n (j := 3) (i := 3) hc rfl rfl dX7_order_142 ?_
          refine R.icmpN_ge (tgt := 173) hc dX7_order_143 (by decide) (by omega) (by omega) (fun _ => ?_) (fun z => absurd (Nat.le_refl _) z)
          refine R.iload (i := 7) hc rfl dX7_order_173 ?_
          refine R.iload (i := 5) hc rfl dX7_order_175 ?_
          refine R.icmp_le (tgt := 185) hc dX7_order_177 (by decide) (fun y => absurd y hgt) (fun _ => ?_)
          refine R.iload (i := 7) hc rfl dX7_order_180 ?_
          refine R.goto (tgt := 187) hc dX7_order_182 (by decide) ?_
          refine R.ist5 hc dX7_order_187 (by decide) rfl ?_
          refine R.iinc6 hc dX7_order_189 (iiN1 _) (by decide) rfl ?_
          refine R.goto (tgt := 97) hc dX7_order_192 (by decide) ?_
          have htk := hbst.take hWl hrk hval hprm hcod (by rw [← how]; exact hmw)
          rw [← how] at htk
          exact R.fg8 (R.fg7 (ih σ D o9 (ow + 1) hR (fun j hj => by rw [hDk 0 (by omega)]; exact hN0 j hj) (fun j hj => by rw [hDk 6 (by omega)]; exact hB j hj) (fun k hk => (hDk k (by omega)).trans (hFr k hk)) (fun j hj => by rw [hDk 8 (by omega)]; exact hs8 j hj) hD10 htk (by omega) hF))
        · refine R.iload (i := 8) hc rfl dX7_order_140 ?_
          refine R.iload_n (j := 3) (i := 3) hc rfl rfl dX7_order_142 ?_
          refine R.icmpN_ge (tgt := 173) hc dX7_order_143 (by decide) (by omega) (by omega) (fun z => absurd z (by omega)) (fun _ => ?_)
          refine R.iload (i := 7) hc rfl dX7_order_146 ?_
          refine R.iload (i := 5) hc rfl dX7_order_148 ?_
          refine R.icmp_le (tgt := 173) hc dX7_order_150 (by decide) (fun y => absurd y hgt) (fun _ => ?_)
          refine R.aload_n (j := 0) (i := 0) hc rfl rfl dX7_order_153 ?_
          refine R.get hc gf_X7_40_r dX7_order_154 (hR.1) rfl ?_
          refine R.iload (i := 8) hc rfl dX7_order_157 ?_
          refine R.aload_n (j := 0) (i := 0) hc rfl rfl dX7_order_159 ?_
          refine R.get hc gf_X7_37_r dX7_order_160 (hR.1) rfl ?_
          refine R.iload (i := 8) hc rfl dX7_order_163 ?_
          refine R.ialdV hc hR.g9 (by omega) (by decide) dX7_order_165 (show D 9 t = nI (o9 t) by rw [hDk 9 (by omega)]; exact hO t ht) ?_
          refine R.iastG hc dX7_order_166 hR.g10 (by omega) (by decide) (fun σ hX hE => ?_)
          have hR := hR.w10 hX hE
          have hF := hF.tr (hE.wid (by omega))
          refine R.iinc8 hc dX7_order_167 (iiN1 _) (by decide) rfl ?_
          refine R.goto (tgt := 140) hc dX7_order_170 (by decide) ?_
          exact iht σ _ hR (fun k hk => by rw [A2_n hk]; exact hDk k hk) (fun j hj => by
            rw [A2_s]
            by_cases e : j = t
            · rw [e, pk_us]
            · rw [pk_un e]; exact hD10 j (by omega)) hF
      · have hgt : nI ow ≤ lnI mo := hle.mpr hmw
        have fin : R cx 0 0 n σ 173 [some (.ref 42), some (.int (nI i1)), some (.int k), some (.int (nI m)), some (.int (nI (m ^ m))), some (.int (lnI mo)), some (.int (nI N)), some (.int (nI ow)), some (.int (nI 0))] [] := by
          refine R.iload (i := 7) hc rfl dX7_order_173 ?_
          refine R.iload (i := 5) hc rfl dX7_order_175 ?_
          refine R.icmp_le (tgt := 185) hc dX7_order_177 (by decide) (fun _ => ?_) (fun y => absurd hgt y)
          refine R.iload (i := 5) hc rfl dX7_order_185 ?_
          refine R.ist5 hc dX7_order_187 (by decide) rfl ?_
          refine R.iinc6 hc dX7_order_189 (iiN1 _) (by decide) rfl ?_
          refine R.goto (tgt := 97) hc dX7_order_192 (by decide) ?_
          exact R.fg8 (R.fg7 (ih σ B bs mo hR hN0 hB hFr hs8 hb10 (hbst.leave hWl hrk hval hprm hcod (by rw [← how]; omega)) hmo hF))
        refine R.iload (i := 8) hc rfl dX7_order_140 ?_
        refine R.iload_n (j := 3) (i := 3) hc rfl rfl dX7_order_142 ?_
        refine R.icmpN_ge (tgt := 173) hc dX7_order_143 (by decide) (by omega) (by omega) (fun _ => fin) (fun _ => ?_)
        refine R.iload (i := 7) hc rfl dX7_order_146 ?_
        refine R.iload (i := 5) hc rfl dX7_order_148 ?_
        refine R.icmp_le (tgt := 173) hc dX7_order_150 (by decide) (fun _ => fin) (fun y => absurd hgt y)
