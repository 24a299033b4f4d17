theorem m1_nI : (-1 : Int32) = nI 4294967295 := by decide
/-- the wet ones, a set -/
def wetS (a : SA) (np : Nat) : Nat := (2 ^ np - 1) &&& (bsN (dryB a) np ^^^ 4294967295)
theorem ones_bit {q : Nat} (h : q < 32) : Nat.testBit 4294967295 q = true := by
  have : ∀ q, q < 32 → Nat.testBit 4294967295 q = true := by decide
  exact this q h
theorem wetS_bit {a : SA} {np p : Nat} (h : np ≤ 7) : (wetS a np).testBit p = (decide (p < np) && !dryB a p) := by
  unfold wetS
  rw [Nat.testBit_and, Nat.testBit_xor, bsN_bit, Nat.testBit_two_pow_sub_one]
  by_cases hq : p < np
  · simp [hq, ones_bit (show p < 32 by omega)]
  · simp [hq]
theorem wetS_lt {a : SA} {np : Nat} (h : np ≤ 7) : wetS a np < 128 := by
  have h2 : 2 ^ np ≤ 2 ^ 7 := Nat.pow_le_pow_right (by omega) h
  have h3 : 0 < 2 ^ np := Nat.two_pow_pos np
  exact Nat.lt_of_le_of_lt Nat.and_le_left (by omega)
theorem nsub_iff {S W : Nat} (hS : S < 128) : S &&& (W ^^^ 4294967295) = 0 ↔ ∀ p, S.testBit p = true → W.testBit p = true := by
  constructor
  · intro h p hp
    have h1 : (S &&& (W ^^^ 4294967295)).testBit p = false := by rw [h]; exact Nat.zero_testBit p
    have hl : p < 7 := bit_lt (b := 7) hS hp
    rw [Nat.testBit_and, Nat.testBit_xor, ones_bit (by omega), hp] at h1
    simpa using h1
  · intro h
    apply Nat.eq_of_testBit_eq
    intro p
    rw [Nat.zero_testBit, Nat.testBit_and, Nat.testBit_xor]
    cases hp : S.testBit p
    · rfl
    · have hl : p < 7 := bit_lt (b := 7) hS hp
      rw [h p hp, ones_bit (by omega)]; rfl
theorem wgt_zero {a : SA} {c S p : Nat} (hs : S.testBit p = true) (hd : dryB a p = true) : ∀ k, p < k → wgt a c S k = 0 := by
  intro k
  induction k with
  | zero => intro h; omega
  | succ k ih =>
    intro h
    rw [wgt]
    by_cases e : p = k
    · subst e; rw [if_pos hd, if_pos hs]
    · rw [ih (by omega)]
      split
      · split <;> rfl
      · exact Nat.zero_mul _
theorem wgt_ext {a : SA} {c S S' : Nat} : ∀ k, (∀ p, p < k → S.testBit p = S'.testBit p) → wgt a c S k = wgt a c S' k := by
  intro k
  induction k with
  | zero => intro _; rfl
  | succ k ih => intro h; rw [wgt, wgt, ih (fun p hp => h p (by omega)), h k (by omega)]
def bel (a : SA) (c np : Nat) (D : Nat) : Nat := sumN (fun S => wgt a c S np) D
theorem sumN_add (f : Nat → Nat) (x : Nat) : ∀ y, sumN f (x + y) = sumN f x + sumN (fun i => f (x + i)) y := by
  intro y
  induction y with
  | zero => rfl
  | succ y ih => rw [← Nat.add_assoc, sumN, sumN, ih]; omega
theorem sumN_mul (f : Nat → Nat) (z : Nat) : ∀ y, sumN (fun i => f i * z) y = sumN f y * z := by
  intro y
  induction y with
  | zero => rw [sumN, sumN, Nat.zero_mul]
  | succ y ih => rw [sumN, sumN, ih, Nat.add_mul]
theorem bel_all {a : SA} {c : Nat} (hc : c ≤ 10) : ∀ k, bel a c k (2 ^ k) = wAll a k := by
  intro k
  induction k with
  | zero => rfl
  | succ k ih =>
    unfold bel at ih ⊢
    rw [Nat.pow_succ, Nat.mul_two, sumN_add, wAll]
    have hb : ∀ S, S < 2 ^ k → S.testBit k = false := fun S hS => Nat.testBit_lt_two_pow hS
    have e1 : sumN (fun S => wgt a c S (k + 1)) (2 ^ k) = sumN (fun S => wgt a c S k * (if dryB a k then 1 else 10 - c)) (2 ^ k) := sumN_ext _ (fun S hS => by
      rw [wgt, hb S hS]
      cases dryB a k
      · rfl
      · exact (Nat.mul_one _).symm)
    have e2 : sumN (fun i => wgt a c (2 ^ k + i) (k + 1)) (2 ^ k) = sumN (fun S => wgt a c S k * (if dryB a k then 0 else c)) (2 ^ k) := sumN_ext _ (fun S hS => by
      have h1 : (2 ^ k + S).testBit k = true := by rw [Nat.testBit_two_pow_add_eq, hb S hS]; rfl
      have h2 : wgt a c (2 ^ k + S) k = wgt a c S k := wgt_ext k (fun p hp => Nat.testBit_two_pow_add_gt hp S)
      rw [wgt, h1, h2]
      cases dryB a k
      · rfl
      · exact (Nat.mul_zero _).symm)
    rw [e1, e2, sumN_mul, sumN_mul, ih, ← Nat.mul_add]
    cases dryB a k
    · show wAll a k * (10 - c + c) = wAll a k * 10
      rw [show 10 - c + c = 10 by omega]
    · rfl
theorem bel_le {a : SA} {c np : Nat} (hc : c ≤ 10) (hp : np ≤ 7) : ∀ D, bel a c np D ≤ D * 10000000 := by
  intro D
  induction D with
  | zero => exact Nat.zero_le _
  | succ D ih =>
    unfold bel at ih ⊢
    rw [sumN, Nat.succ_mul]
    exact Nat.add_le_add ih (Nat.le_trans (wgt_le (a := a) (D := D) hc np) (p10_7 hp))
set_option maxHeartbeats 4000000 in
set_option maxRecDepth 100000 in
theorem c_X7_carts (l : Launch) (d : Nat) (X : Nat × (Nat → Int32)) (n : Nat) {σ : Wd} {a : SA} {np nq hr dr : Nat} {hs : List SN} {im : IM} {tp : Nat → Nat} {tl : Nat} {ln sz : Nat → Nat} {it : Nat → Nat → Int64} (hC : RA σ a np nq hr dr hs im tp tl ln sz it) (hI : WI a np nq hr dr hs im tp tl ln sz) (p w v : Int32) : CN l yX7_carts cX7_carts 11 (some .int) ((d + 6)) X n [.ref 42, .int p, .int w, .int v] σ (fun r σ' => r = some (.int (s_carts a np nq hr p w v)) ∧ (RA σ' a np nq hr dr hs im tp tl ln sz it ∧ Eqo 42 17 σ σ')) := by
  refine CN.of (by decide) [some (.ref 42), some (.int p), some (.int w), some (.int v), none, none, none, none, none, none, none] (fun _ => Nat.le_of_ble_eq_true rfl) (fun _ => rfl) (fun cx hc => ?_)
  obtain ⟨A, L, I, hR, hS⟩ := hC
  obtain ⟨hW, hh, hdr, hwh, hwi, hU, hV⟩ := hI
  have hN := hS.n
  have hW1 := hW.1
  have hW2 := hW.2.1
  have hF : Eqo 42 17 σ σ := Eqo.rf
  refine R.aload_n (j := 0) (i := 0) hc rfl rfl dX7_carts_0 ?_
  refine R.iload_n (j := 1) (i := 1) hc rfl rfl dX7_carts_1 ?_
  refine R.cVr hc m_X7_isPerson lk_X7_129 dX7_carts_2 (c_X7_isPerson l (d + 4) X n hR hN hW _) (hR.1) rfl rfl rfl (by omega) ⟨Nat.le_refl _, Nat.le_refl _⟩ (Nat.le_of_ble_eq_true rfl) ?_
  refine R.ifB_eq (tgt := 30) hc dX7_carts_5 (by decide) (fun q0 => ?_) (fun q0 => ?_)
  · refine R.iconst hc ic_m1 dX7_carts_30 ?_
    have e9 : (-1) = s_carts a np nq hr p w v := by simp [s_carts, q0]
    exact R.iret hc rfl dX7_carts_31 ⟨rfl, congrArg (fun z => some (Value.int z)) e9, ⟨A, L, I, hR, hS⟩, hF⟩
  refine R.iload_n (j := 2) (i := 2) hc rfl rfl dX7_carts_8 ?_
  refine R.i2l hc dX7_carts_9 ?_
  refine R.lconst (j := 0) (v := lN 0) hc rfl dX7_carts_10 ?_
  refine R.ldc2 hc kn_X7_222 dX7_carts_11 ?_
  refine R.cSr hc m_X7_in lk_X7_59 dX7_carts_14 (c_X7_in l (d + 5) X n _ _ _) rfl rfl (by omega) ⟨Nat.le_refl _, Nat.le_refl _⟩ (Nat.le_of_ble_eq_true rfl) ?_
  rw [inL_R (by decide) (by decide)]
  refine R.ifB_eq (tgt := 30) hc dX7_carts_17 (by decide) (fun q1 => ?_) (fun q1 => ?_)
  · refine R.iconst hc ic_m1 dX7_carts_30 ?_
    have e9 : (-1) = s_carts a np nq hr p w v := by simp [s_carts, q1]
    exact R.iret hc rfl dX7_carts_31 ⟨rfl, congrArg (fun z => some (Value.int z)) e9, ⟨A, L, I, hR, hS⟩, hF⟩
  refine R.iload_n (j := 3) (i := 3) hc rfl rfl dX7_carts_20 ?_
  refine R.i2l hc dX7_carts_21 ?_
  refine R.lconst (j := 0) (v := lN 0) hc rfl dX7_carts_22 ?_
  refine R.lconst (j := 1) (v := lN 1) hc rfl dX7_carts_23 ?_
  refine R.cSr hc m_X7_in lk_X7_59 dX7_carts_24 (c_X7_in l (d + 5) X n _ _ _) rfl rfl (by omega) ⟨Nat.le_refl _, Nat.le_refl _⟩ (Nat.le_of_ble_eq_true rfl) ?_
  rw [inL_R (by decide) (by decide)]
  refine R.ifB_ne (tgt := 32) hc dX7_carts_27 (by decide) (fun q2 => ?_) (fun q2 => ?_)
  rotate_left
  · refine R.iconst hc ic_m1 dX7_carts_30 ?_
    have e9 : (-1) = s_carts a np nq hr p w v := by simp [s_carts, q2]
    exact R.iret hc rfl dX7_carts_31 ⟨rfl, congrArg (fun z => some (Value.int z)) e9, ⟨A, L, I, hR, hS⟩, hF⟩
  obtain ⟨j, rfl, hj, t0⟩ := inI_tN (by omega) q0
  obtain ⟨c, rfl, _, g2, t1⟩ := inR_of (by decide) (by decide) q1
  obtain ⟨i2, rfl, _, g3, t2⟩ := inR_of (by decide) (by decide) q2
  have hA : s_carts a np nq hr (nI j) (nI c) (nI i2) = nI (crtS a np nq hr j c i2) := by simp [s_carts, q0, q1, q2, t0, t1, t2]
  rw [hA] at hc
  have h2p : 2 ^ np ≤ 128 := Nat.le_trans (Nat.pow_le_pow_right (by omega) hW1) (by decide)
  have h2q := Nat.two_pow_pos np
  have hAb := abv_le (a := a) (nq := nq) (hr := hr) (q := j) g2 hW1
  have hBb := bel_le (a := a) g2 hW1
  have hw7 := fun D => Nat.le_trans (wgt_le (a := a) (D := D) g2 np) (p10_7 hW1)
  have hal := Nat.le_trans (wAll_le (a := a) np) (p10_7 hW1)
  have hap := wAll_pos (a := a) np
  have hwt := wetS_lt (a := a) hW1
  obtain ⟨σ0, hσ0⟩ : ∃ z, z = σ := ⟨_, rfl⟩
  rw [← hσ0] at hc
  have hF : Eqo 42 17 σ0 σ := by rw [hσ0]; exact Eqo.rf
  refine R.iconst hc ic_1 dX7_carts_32 ?_
  refine R.aload_n (j := 0) (i := 0) hc rfl rfl dX7_carts_33 ?_
  refine R.get hc gf_X7_7_r dX7_carts_34 (hR.1) rfl ?_
  refine R.iconst hc ic_0 dX7_carts_37 ?_
  refine R.ialdV hc hR.g0 (by omega) (by decide) dX7_carts_38 (hN.1) ?_
  first | refine R.shl1N hc (by omega) dX7_carts_39 ?_ | refine R.ishl hc dX7_carts_39 ?_
  refine R.iconst hc ic_1 dX7_carts_40 ?_
  first | refine R.isubN hc (by omega) dX7_carts_41 ?_ | refine R.isub hc dX7_carts_41 ?_
  refine R.aload_n (j := 0) (i := 0) hc rfl rfl dX7_carts_42 ?_
  refine R.cVr hc m_X7_dryOnes lk_X7_139 dX7_carts_43 (c_X7_dryOnes l (d + 2) X n hR hN hW) (hR.1) rfl rfl rfl (by omega) ⟨Nat.le_refl _, Nat.le_refl _⟩ (Nat.le_of_ble_eq_true rfl) ?_
  refine R.iconst hc ic_m1 dX7_carts_46 ?_
  refine R.ixor hc dX7_carts_47 ?_
  refine R.iand hc dX7_carts_48 ?_
  have ec : nI (2 ^ np - 1) &&& (nI (bsN (dryB a) np) ^^^ (-1)) = nI (wetS a np) := by rw [m1_nI, nI_xor, nI_and]; rfl
  rw [ec]
  obtain ⟨wt, hwe⟩ : ∃ z, z = wetS a np := ⟨_, rfl⟩
  rw [← hwe] at hwt ⊢
  refine R.ist4 hc dX7_carts_49 (by decide) rfl ?_
  refine R.iconst hc ic_0 dX7_carts_51 ?_
  refine R.ist5 hc dX7_carts_52 (by decide) rfl ?_
  refine R.iconst hc ic_0 dX7_carts_54 ?_
  refine R.ist6 hc dX7_carts_55 (by decide) rfl ?_
  refine R.aload_n (j := 0) (i := 0) hc rfl rfl dX7_carts_57 ?_
  refine R.cVu hc m_X7_asides lk_X7_204 dX7_carts_58 (c_X7_asides l (d + 5) X n hR) (hR.1) rfl rfl rfl (by omega) ⟨Nat.le_refl _, Nat.le_refl _⟩ (Nat.le_of_ble_eq_true rfl) (fun σ hX => ?_)
  obtain ⟨B, hR, hB, hBk, hE⟩ := hX
  have hF := hF.tr hE
  have hFr : ∀ k, k = 2 ∨ k = 5 ∨ 11 ≤ k → B k = A k := fun k hk => hBk k (by omega)
  have hN : NowR (B 0) a np nq hr dr := by rw [hBk 0 (by omega)]; exact hN
  refine R.iconst hc ic_0 dX7_carts_61 ?_
  refine R.ist7 hc dX7_carts_62 (by decide) rfl ?_
  refine rl_down (P := fun S => ∀ (σ : Wd) (B : Nat → Nat → Int32), RW σ B L I → (∀ j, j < 49 → B 0 j = A 0 j) → (∀ j, j < 49 → B 6 j = A 0 j) → (∀ k, k = 2 ∨ k = 5 ∨ 11 ≤ k → B k = A k) → Eqo 42 17 σ0 σ → R cx 0 0 n σ 64 [some (.ref 42), some (.int (nI j)), some (.int (nI c)), some (.int (nI i2)), some (.int (nI wt)), some (.int (nI (abv a np nq hr c j (min S (2 ^ np))))), some (.int (nI (bel a c np (min S (2 ^ np))))), some (.int (nI S)), none, none, none] []) 128 (fun σ B hR hN0 hB hFr hF => ?_) (fun S hS8 ih σ B hR hN0 hB hFr hF => ?_) 0 (Nat.zero_le _) σ B hR (fun j _ => by rw [hBk 0 (by omega)]) hB hFr hF
  · rw [Nat.min_eq_right h2p, bel_all g2]
    have hab := hAb (2 ^ np)
    obtain ⟨u0, hu0⟩ : ∃ z, z = abv a np nq hr c j (2 ^ np) := ⟨_, rfl⟩
    obtain ⟨v0, hv0⟩ : ∃ z, z = wAll a np := ⟨_, rfl⟩
    rw [crtS, ← hu0, ← hv0] at hc
    rw [← hu0] at hab ⊢
    rw [← hv0] at hal hap ⊢
    have hgp : 0 < Nat.gcd u0 v0 := Nat.gcd_pos_of_pos_right _ hap
    have hgl : Nat.gcd u0 v0 ≤ v0 := Nat.gcd_le_right _ hap
    refine R.iload (i := 7) hc rfl dX7_carts_64 ?_
    refine R.sipush hc sp_128 dX7_carts_66 ?_
    refine R.icmpN_ge (tgt := 225) hc dX7_carts_69 (by decide) (by omega) (by omega) (fun _ => ?_) (fun z => absurd (Nat.le_refl _) z)
    refine R.iload (i := 5) hc rfl dX7_carts_225 ?_
    refine R.ist7 hc dX7_carts_227 (by decide) rfl ?_
    refine R.iload (i := 6) hc rfl dX7_carts_229 ?_
    refine R.ist8 hc dX7_carts_231 (by decide) rfl ?_
    have fin : ∀ (u v : Nat), u = Nat.gcd u0 v0 → R cx 0 0 n σ 256 [some (.ref 42), some (.int (nI j)), some (.int (nI c)), some (.int (nI i2)), some (.int (nI wt)), some (.int (nI u0)), some (.int (nI v0)), some (.int (nI u)), some (.int (nI v)), none, none] [] := by
      intro u v hu
      subst hu
      refine R.iload_n (j := 3) (i := 3) hc rfl rfl dX7_carts_256 ?_
      refine R.ifN_ne (tgt := 268) hc dX7_carts_257 (by decide) (by omega) (fun z => ?_) (fun z => ?_)
      · rw [if_neg z] at hc
        refine R.iload (i := 6) hc rfl dX7_carts_268 ?_
        refine R.iload (i := 7) hc rfl dX7_carts_270 ?_
        first | refine R.idivN hc (by omega) (by omega) (by omega) dX7_carts_272 ?_ | refine R.idiv hc (by decide) dX7_carts_272 ?_
        exact R.iret hc rfl dX7_carts_273 ⟨rfl, rfl, ⟨B, L, I, hR, hS.q hW1 hW2 hN0 hFr⟩, hF⟩
      · rw [if_pos z] at hc
        refine R.iload (i := 5) hc rfl dX7_carts_260 ?_
        refine R.iload (i := 7) hc rfl dX7_carts_262 ?_
        first | refine R.idivN hc (by omega) (by omega) (by omega) dX7_carts_264 ?_ | refine R.idiv hc (by decide) dX7_carts_264 ?_
        refine R.goto (tgt := 273) hc dX7_carts_265 (by decide) ?_
        exact R.iret hc rfl dX7_carts_273 ⟨rfl, rfl, ⟨B, L, I, hR, hS.q hW1 hW2 hN0 hFr⟩, hF⟩
    have key : ∀ (b u v : Nat), v ≤ b → u < 2 ^ 31 → v < 2 ^ 31 → Nat.gcd u v = Nat.gcd u0 v0 → R cx 0 0 n σ 233 [some (.ref 42), some (.int (nI j)), some (.int (nI c)), some (.int (nI i2)), some (.int (nI wt)), some (.int (nI u0)), some (.int (nI v0)), some (.int (nI u)), some (.int (nI v)), none, none] [] := by
      intro b
      induction b with
      | zero =>
        intro u v hvb hu hv e
        have hv0 : v = 0 := by omega
        subst hv0
        rw [Nat.gcd_zero_right] at e
        refine R.iload (i := 8) hc rfl dX7_carts_233 ?_
        refine R.ifN_eq (tgt := 256) hc dX7_carts_235 (by decide) (by omega) (fun _ => fin u 0 e) (fun z => absurd rfl z)
      | succ b ihb =>
        intro u v hvb hu hv e
        refine R.iload (i := 8) hc rfl dX7_carts_233 ?_
        refine R.ifN_eq (tgt := 256) hc dX7_carts_235 (by decide) (by omega) (fun z => ?_) (fun z => ?_)
        · subst z
          rw [Nat.gcd_zero_right] at e
          exact fin u 0 e
        · have h3 := Nat.mod_lt u (Nat.pos_of_ne_zero z)
          refine R.iload (i := 7) hc rfl dX7_carts_238 ?_
          refine R.iload (i := 8) hc rfl dX7_carts_240 ?_
          first | refine R.iremN hc (by omega) (by omega) (by omega) dX7_carts_242 ?_ | refine R.irem hc (by decide) dX7_carts_242 ?_
          refine R.ist9 hc dX7_carts_243 (by decide) rfl ?_
          refine R.iload (i := 8) hc rfl dX7_carts_245 ?_
          refine R.ist7 hc dX7_carts_247 (by decide) rfl ?_
          refine R.iload (i := 9) hc rfl dX7_carts_249 ?_
          refine R.ist8 hc dX7_carts_251 (by decide) rfl ?_
          refine R.goto (tgt := 233) hc dX7_carts_253 (by decide) ?_
          exact R.fg9 (ihb v (u % v) (by omega) hv (by omega) (by rw [← e, Nat.gcd_comm u v, Nat.gcd_rec v u, Nat.gcd_comm]))
    exact key v0 u0 v0 (Nat.le_refl _) (by omega) (by omega) rfl
  · have hN : NowR (B 0) a np nq hr dr := hS.n.ag hW1 hW2 hN0
    refine R.iload (i := 7) hc rfl dX7_carts_64 ?_
    refine R.sipush hc sp_128 dX7_carts_66 ?_
    refine R.icmpN_ge (tgt := 225) hc dX7_carts_69 (by decide) (by omega) (by omega) (fun z => absurd z (by omega)) (fun _ => ?_)
    refine R.iload (i := 7) hc rfl dX7_carts_72 ?_
    refine R.iload (i := 4) hc rfl dX7_carts_74 ?_
    refine R.iconst hc ic_m1 dX7_carts_76 ?_
    refine R.ixor hc dX7_carts_77 ?_
    refine R.iand hc dX7_carts_78 ?_
    rw [show nI S &&& (nI wt ^^^ (-1)) = nI (S &&& (wt ^^^ 4294967295)) by rw [m1_nI, nI_xor, nI_and]]
    have hns : S &&& (wt ^^^ 4294967295) < 2 ^ 31 := Nat.lt_of_le_of_lt Nat.and_le_left (by omega)
    refine R.ifN_ne (tgt := 219) hc dX7_carts_79 (by decide) hns (fun z => ?_) (fun z => ?_)
    · rw [nsub_iff hS8, hwe] at z
      have e1 : abv a np nq hr c j (min (S + 1) (2 ^ np)) = abv a np nq hr c j (min S (2 ^ np)) ∧ bel a c np (min (S + 1) (2 ^ np)) = bel a c np (min S (2 ^ np)) := by
        by_cases y : S < 2 ^ np
        · rw [Nat.min_eq_left (show S + 1 ≤ 2 ^ np by omega), Nat.min_eq_left (show S ≤ 2 ^ np by omega)]
          have hz : wgt a c S np = 0 := by
            rcases Classical.em (∃ p, S.testBit p = true ∧ dryB a p = true) with ⟨p, h1, h2⟩ | h
            · exact wgt_zero h1 h2 np (bit_lt y h1)
            · exfalso
              apply z
              intro p hp
              rw [wetS_bit hW1]
              have h1 := bit_lt y hp
              cases h2 : dryB a p
              · simp [h1]
              · exact absurd ⟨p, hp, h2⟩ h
          refine ⟨?_, ?_⟩
          · rw [abv, hz]; split <;> rfl
          · unfold bel; rw [sumN, hz]; rfl
        · rw [Nat.min_eq_right (show 2 ^ np ≤ S + 1 by omega), Nat.min_eq_right (show 2 ^ np ≤ S by omega)]
          exact ⟨rfl, rfl⟩
      rw [e1.1, e1.2] at ih
      refine R.iinc7 hc dX7_carts_219 (iiN1 _) (by decide) rfl ?_
      refine R.goto (tgt := 64) hc dX7_carts_222 (by decide) ?_
      exact ih σ B hR hN0 hB hFr hF
    · rw [nsub_iff hS8, hwe] at z
      have hwb : ∀ p, p < np → wt.testBit p = !dryB a p := fun p hp => by rw [hwe, wetS_bit hW1]; simp [hp]
      have hS2 : S < 2 ^ np := by
        rcases Nat.lt_or_ge S (2 ^ np) with y | y
        · exact y
        · exfalso
          obtain ⟨p, h1, h2⟩ := Nat.exists_ge_and_testBit_of_ge_two_pow y
          have := z p h2
          rw [wetS_bit hW1] at this
          simp [show ¬ p < np by omega] at this
      rw [Nat.min_eq_left (show S + 1 ≤ 2 ^ np by omega), abv, bel, sumN] at ih
      rw [Nat.min_eq_left (show S ≤ 2 ^ np by omega)]
      have hab := hAb S
      have hbb := hBb S
      have hw9 := hw7 S
      obtain ⟨u0, hu0⟩ : ∃ z, z = abv a np nq hr c j S := ⟨_, rfl⟩
      obtain ⟨v0, hv0⟩ : ∃ z, z = bel a c np S := ⟨_, rfl⟩
      rw [← hu0] at hab ih ⊢
      rw [← hv0] at hbb ⊢
      rw [show sumN (fun S => wgt a c S np) S = v0 from hv0.symm] at ih
      refine R.iconst hc ic_1 dX7_carts_82 ?_
      refine R.ist8 hc dX7_carts_83 (by decide) rfl ?_
      refine R.iconst hc ic_0 dX7_carts_85 ?_
      refine R.ist9 hc dX7_carts_86 (by decide) rfl ?_
      refine rl_down (P := fun p => ∀ (σ : Wd) (B : Nat → Nat → Int32), RW σ B L I → NowR (B 0) (crtA a S p) np nq hr dr → (∀ j, j < 49 → B 6 j = A 0 j) → (∀ k, k = 2 ∨ k = 5 ∨ 11 ≤ k → B k = A k) → Eqo 42 17 σ0 σ → R cx 0 0 n σ 88 [some (.ref 42), some (.int (nI j)), some (.int (nI c)), some (.int (nI i2)), some (.int (nI wt)), some (.int (nI (u0))), some (.int (nI (v0))), some (.int (nI S)), some (.int (nI (wgt a c S p))), some (.int (nI p)), none] []) np (fun σ B hR hN hB hFr hF => ?_) (fun p hp ihp σ B hR hN hB hFr hF => ?_) 0 (Nat.zero_le _) σ B hR hN hB hFr hF
      · have g6 := ((WF_hourS (hr := hr) (WF_crt (D := S) hW np)).2.2.2.1 j hj).2.2.2
        refine R.iload (i := 9) hc rfl dX7_carts_88 ?_
        refine R.aload_n (j := 0) (i := 0) hc rfl rfl dX7_carts_90 ?_
        refine R.get hc gf_X7_7_r dX7_carts_91 (hR.1) rfl ?_
        refine R.iconst hc ic_0 dX7_carts_94 ?_
        refine R.ialdV hc hR.g0 (by omega) (by decide) dX7_carts_95 (hN.1) ?_
        refine R.icmpN_ge (tgt := 183) hc dX7_carts_96 (by decide) (by omega) (by omega) (fun _ => ?_) (fun z => absurd (Nat.le_refl _) z)
        refine R.aload_n (j := 0) (i := 0) hc rfl rfl dX7_carts_183 ?_
        refine R.cVu hc m_X7_goesBy lk_X7_106 dX7_carts_184 (c_X7_goesBy l d X n hR hN (WF_crt (D := S) hW _) (by omega)) (hR.1) rfl rfl rfl (by omega) ⟨Nat.le_refl _, Nat.le_refl _⟩ (Nat.le_of_ble_eq_true rfl) (fun σ hX => ?_)
        obtain ⟨C, hR, hN, hCk, hE⟩ := hX
        have hF := hF.tr hE
        have hB : ∀ j, j < 49 → C 6 j = A 0 j := fun j hj => by rw [hCk 6 (by omega)]; exact hB j hj
        have hFr : ∀ k, k = 2 ∨ k = 5 ∨ 11 ≤ k → C k = A k := fun k hk => (hCk k (by omega)).trans (hFr k hk)
        refine R.iload (i := 6) hc rfl dX7_carts_187 ?_
        refine R.iload (i := 8) hc rfl dX7_carts_189 ?_
        first | refine R.iaddN hc dX7_carts_191 ?_ | refine R.iadd hc dX7_carts_191 ?_
        refine R.ist6 hc dX7_carts_192 (by decide) rfl ?_
        refine R.iload (i := 5) hc rfl dX7_carts_194 ?_
        refine R.aload_n (j := 0) (i := 0) hc rfl rfl dX7_carts_196 ?_
        refine R.iload_n (j := 1) (i := 1) hc rfl rfl dX7_carts_197 ?_
        refine R.cVr hc m_X7_claimed lk_X7_70 dX7_carts_198 (n_X7_claimed l (d + 4) X n hR hN (WF_hourS (WF_crt (D := S) hW _)) (by omega)) (hR.1) rfl rfl rfl (by omega) ⟨Nat.le_refl _, Nat.le_refl _⟩ (Nat.le_of_ble_eq_true rfl) ?_
        refine R.bipush hc bp_m4 dX7_carts_201 ?_
        refine R.icmp_ne (tgt := 210) hc dX7_carts_203 (by decide) (fun y => ?_) (fun y => ?_)
        · rw [if_pos (show hasC (hourS (crtA a S np) np nq hr) j = true by simp [hasC]; exact fun u => y ((cI_n4 (by omega)).mpr u))] at ih
          refine R.iload (i := 8) hc rfl dX7_carts_210 ?_
          first | refine R.iaddN hc dX7_carts_212 ?_ | refine R.iadd hc dX7_carts_212 ?_
          refine R.ist5 hc dX7_carts_213 (by decide) rfl ?_
          refine R.aload_n (j := 0) (i := 0) hc rfl rfl dX7_carts_215 ?_
          refine R.cVu hc m_X7_backs lk_X7_210 dX7_carts_216 (c_X7_backs l (d + 5) X n hR) (hR.1) rfl rfl rfl (by omega) ⟨Nat.le_refl _, Nat.le_refl _⟩ (Nat.le_of_ble_eq_true rfl) (fun σ hX => ?_)
          obtain ⟨B, hR, hB0, hBk, hE⟩ := hX
          have hF := hF.tr hE
          have hN0 : ∀ j, j < 49 → B 0 j = A 0 j := fun j hj => (hB0 j hj).trans (hB j hj)
          have hN : NowR (B 0) a np nq hr dr := hS.n.ag hW1 hW2 hN0
          have hB : ∀ j, j < 49 → B 6 j = A 0 j := fun j hj => by rw [hBk 6 (by omega)]; exact hB j hj
          have hFr : ∀ k, k = 2 ∨ k = 5 ∨ 11 ≤ k → B k = A k := fun k hk => (hBk k (by omega)).trans (hFr k hk)
          refine R.iinc7 hc dX7_carts_219 (iiN1 _) (by decide) rfl ?_
          refine R.goto (tgt := 64) hc dX7_carts_222 (by decide) ?_
          exact R.fg9 (R.fg8 (ih σ B hR hN0 hB hFr hF))
        · rw [if_neg (show ¬ hasC (hourS (crtA a S np) np nq hr) j = true by simp [hasC]; exact (cI_n4 (by omega)).mp y)] at ih
          refine R.iconst hc ic_0 dX7_carts_206 ?_
          refine R.goto (tgt := 212) hc dX7_carts_207 (by decide) ?_
          first | refine R.iaddN hc dX7_carts_212 ?_ | refine R.iadd hc dX7_carts_212 ?_
          refine R.ist5 hc dX7_carts_213 (by decide) rfl ?_
          refine R.aload_n (j := 0) (i := 0) hc rfl rfl dX7_carts_215 ?_
          refine R.cVu hc m_X7_backs lk_X7_210 dX7_carts_216 (c_X7_backs l (d + 5) X n hR) (hR.1) rfl rfl rfl (by omega) ⟨Nat.le_refl _, Nat.le_refl _⟩ (Nat.le_of_ble_eq_true rfl) (fun σ hX => ?_)
          obtain ⟨B, hR, hB0, hBk, hE⟩ := hX
          have hF := hF.tr hE
          have hN0 : ∀ j, j < 49 → B 0 j = A 0 j := fun j hj => (hB0 j hj).trans (hB j hj)
          have hN : NowR (B 0) a np nq hr dr := hS.n.ag hW1 hW2 hN0
          have hB : ∀ j, j < 49 → B 6 j = A 0 j := fun j hj => by rw [hBk 6 (by omega)]; exact hB j hj
          have hFr : ∀ k, k = 2 ∨ k = 5 ∨ 11 ≤ k → B k = A k := fun k hk => (hBk k (by omega)).trans (hFr k hk)
          refine R.iinc7 hc dX7_carts_219 (iiN1 _) (by decide) rfl ?_
          refine R.goto (tgt := 64) hc dX7_carts_222 (by decide) ?_
          exact R.fg9 (R.fg8 (ih σ B hR hN0 hB hFr hF))
      · obtain ⟨k0, k1, k2⟩ := (WF_crt (D := S) hW p).2.2.1 p hp
        rw [wgt, crtA] at ihp
        have rest : ∀ bt : Bool, S.testBit p = bt → R cx 0 0 n σ 117 [some (.ref 42), some (.int (nI j)), some (.int (nI c)), some (.int (nI i2)), some (.int (nI wt)), some (.int (nI (u0))), some (.int (nI (v0))), some (.int (nI S)), some (.int (nI (wgt a c S p))), some (.int (nI p)), some (.int (b2 bt))] [] := by
          intro bt hbt
          rw [hbt] at ihp
          have tail : R cx 0 0 n σ 149 [some (.ref 42), some (.int (nI j)), some (.int (nI c)), some (.int (nI i2)), some (.int (nI wt)), some (.int (nI (u0))), some (.int (nI (v0))), some (.int (nI S)), some (.int (nI (if dryB a p = true then if bt = true then 0 else wgt a c S p else wgt a c S p * if bt = true then c else 10 - c))), some (.int (nI p)), some (.int (b2 bt))] [] := by
            refine R.aload_n (j := 0) (i := 0) hc rfl rfl dX7_carts_149 ?_
            refine R.iload (i := 9) hc rfl dX7_carts_150 ?_
            refine R.iload (i := 10) hc rfl dX7_carts_152 ?_
            refine R.ifB_eq (tgt := 168) hc dX7_carts_154 (by decide) (fun y => ?_) (fun y => ?_)
            · subst y
              refine R.aload_n (j := 0) (i := 0) hc rfl rfl dX7_carts_168 ?_
              refine R.iload (i := 9) hc rfl dX7_carts_169 ?_
              refine R.cVr hc m_X7_deep lk_X7_78 dX7_carts_171 (n_X7_deep l (d + 4) X n hR hN (WF_crt (D := S) hW _) (by omega)) (hR.1) rfl rfl rfl (by omega) ⟨Nat.le_refl _, Nat.le_refl _⟩ (Nat.le_of_ble_eq_true rfl) ?_
              refine R.cVu hc m_X7_deeps lk_X7_102 dX7_carts_174 (c_X7_deeps l (d + 5) X n hR (by omega) _) (hR.1) rfl rfl rfl (by omega) ⟨Nat.le_refl _, Nat.le_refl _⟩ (Nat.le_of_ble_eq_true rfl) (fun σ hX => ?_)
              obtain ⟨hR, hE⟩ := hX
              have hF := hF.tr hE
              rw [clI_n (by omega), if_neg (by omega)] at hR
              have hB : ∀ j, j < 49 → A2 B 0 (4 + 3 * p + 2) (nI (crtA a S p 2 p)) 6 j = A 0 j := fun j hj => by rw [A2_n (by omega)]; exact hB j hj
              have hFr : ∀ k, k = 2 ∨ k = 5 ∨ 11 ≤ k → A2 B 0 (4 + 3 * p + 2) (nI (crtA a S p 2 p)) k = A k := fun k hk => by rw [A2_n (by omega)]; exact hFr k hk
              refine R.iinc9 hc dX7_carts_177 (iiN1 _) (by decide) rfl ?_
              refine R.goto (tgt := 88) hc dX7_carts_180 (by decide) ?_
              exact R.fg10 (ihp σ _ hR (by rw [A2_s, if_neg (by decide)]; have h9 := hN.wp (k := 2) (p := p) (x := crtA a S p 2 p) (by omega) (by omega); rw [a2_id rfl] at h9; exact h9) hB hFr hF)
            · subst y
              refine R.aload_n (j := 0) (i := 0) hc rfl rfl dX7_carts_157 ?_
              refine R.iload (i := 9) hc rfl dX7_carts_158 ?_
              refine R.cVr hc m_X7_deep lk_X7_78 dX7_carts_160 (n_X7_deep l (d + 4) X n hR hN (WF_crt (D := S) hW _) (by omega)) (hR.1) rfl rfl rfl (by omega) ⟨Nat.le_refl _, Nat.le_refl _⟩ (Nat.le_of_ble_eq_true rfl) ?_
              refine R.iconst hc ic_2 dX7_carts_163 ?_
              first | refine R.idivN hc (by omega) (by omega) (by omega) dX7_carts_164 ?_ | refine R.idiv hc (by decide) dX7_carts_164 ?_
              refine R.goto (tgt := 174) hc dX7_carts_165 (by decide) ?_
              refine R.cVu hc m_X7_deeps lk_X7_102 dX7_carts_174 (c_X7_deeps l (d + 5) X n hR (by omega) _) (hR.1) rfl rfl rfl (by omega) ⟨Nat.le_refl _, Nat.le_refl _⟩ (Nat.le_of_ble_eq_true rfl) (fun σ hX => ?_)
              obtain ⟨hR, hE⟩ := hX
              have hF := hF.tr hE
              rw [clI_n (by omega), if_neg (by omega)] at hR
              have hB : ∀ j, j < 49 → A2 B 0 (4 + 3 * p + 2) (nI (crtA a S p 2 p / 2)) 6 j = A 0 j := fun j hj => by rw [A2_n (by omega)]; exact hB j hj
              have hFr : ∀ k, k = 2 ∨ k = 5 ∨ 11 ≤ k → A2 B 0 (4 + 3 * p + 2) (nI (crtA a S p 2 p / 2)) k = A k := fun k hk => by rw [A2_n (by omega)]; exact hFr k hk
              refine R.iinc9 hc dX7_carts_177 (iiN1 _) (by decide) rfl ?_
              refine R.goto (tgt := 88) hc dX7_carts_180 (by decide) ?_
              exact R.fg10 (ihp σ _ hR (by rw [A2_s, if_pos rfl]; exact hN.wp (k := 2) (by omega) (by omega)) hB hFr hF)
          have hx1 : wt / 2 ^ p &&& 1 < 2 ^ 31 := Nat.lt_of_le_of_lt Nat.and_le_right (by decide)
          refine R.iload (i := 8) hc rfl dX7_carts_117 ?_
          refine R.iload (i := 4) hc rfl dX7_carts_119 ?_
          refine R.iload (i := 9) hc rfl dX7_carts_121 ?_
          first | refine R.ishrN hc (by omega) (by omega) dX7_carts_123 ?_ | refine R.ishr hc dX7_carts_123 ?_
          refine R.iconst hc ic_1 dX7_carts_124 ?_
          first | refine R.iandN hc dX7_carts_125 ?_ | refine R.iand hc dX7_carts_125 ?_
          refine R.ifN_ne (tgt := 133) hc dX7_carts_126 (by decide) hx1 (fun y => ?_) (fun y => ?_)
          · have hd : dryB a p = false := by
              cases u : dryB a p
              · rfl
              · exact absurd (tbz.mpr (by rw [hwb p hp, u]; rfl)) y
            rw [hd] at tail
            simp only [Bool.false_eq_true, if_false] at tail
            refine R.iload (i := 10) hc rfl dX7_carts_133 ?_
            refine R.ifB_eq (tgt := 142) hc dX7_carts_135 (by decide) (fun x => ?_) (fun x => ?_)
            · subst x
              simp only [Bool.false_eq_true, if_false] at tail
              refine R.bipush hc bp_10 dX7_carts_142 ?_
              refine R.iload_n (j := 2) (i := 2) hc rfl rfl dX7_carts_144 ?_
              first | refine R.isubN hc (by omega) dX7_carts_145 ?_ | refine R.isub hc dX7_carts_145 ?_
              first | refine R.imulN hc dX7_carts_146 ?_ | refine R.imul hc dX7_carts_146 ?_
              refine R.ist8 hc dX7_carts_147 (by decide) rfl ?_
              exact tail
            · subst x
              simp only [if_true] at tail
              refine R.iload_n (j := 2) (i := 2) hc rfl rfl dX7_carts_138 ?_
              refine R.goto (tgt := 146) hc dX7_carts_139 (by decide) ?_
              first | refine R.imulN hc dX7_carts_146 ?_ | refine R.imul hc dX7_carts_146 ?_
              refine R.ist8 hc dX7_carts_147 (by decide) rfl ?_
              exact tail
          · have hd : dryB a p = true := by
              have u := tbz.mp y
              rw [hwb p hp] at u
              simpa using u
            have hbf : bt = false := by
              cases u : bt
              · rfl
              · have v := z p (by rw [hbt, u])
                rw [wetS_bit hW1, hd] at v
                simp at v
            rw [hd, hbf] at tail
            simp only [Bool.false_eq_true, if_false, if_true] at tail
            rw [hbf]
            refine R.iconst hc ic_1 dX7_carts_129 ?_
            refine R.goto (tgt := 146) hc dX7_carts_130 (by decide) ?_
            first | refine R.imulN hc dX7_carts_146 ?_ | refine R.imul hc dX7_carts_146 ?_
            refine R.ist8 hc dX7_carts_147 (by decide) rfl ?_
            rw [Nat.mul_one]
            exact tail
        have hx1 : S / 2 ^ p &&& 1 < 2 ^ 31 := Nat.lt_of_le_of_lt Nat.and_le_right (by decide)
        refine R.iload (i := 9) hc rfl dX7_carts_88 ?_
        refine R.aload_n (j := 0) (i := 0) hc rfl rfl dX7_carts_90 ?_
        refine R.get hc gf_X7_7_r dX7_carts_91 (hR.1) rfl ?_
        refine R.iconst hc ic_0 dX7_carts_94 ?_
        refine R.ialdV hc hR.g0 (by omega) (by decide) dX7_carts_95 (hN.1) ?_
        refine R.icmpN_ge (tgt := 183) hc dX7_carts_96 (by decide) (by omega) (by omega) (fun z => absurd z (by omega)) (fun _ => ?_)
        refine R.iload (i := 7) hc rfl dX7_carts_99 ?_
        refine R.iload (i := 9) hc rfl dX7_carts_101 ?_
        first | refine R.ishrN hc (by omega) (by omega) dX7_carts_103 ?_ | refine R.ishr hc dX7_carts_103 ?_
        refine R.iconst hc ic_1 dX7_carts_104 ?_
        first | refine R.iandN hc dX7_carts_105 ?_ | refine R.iand hc dX7_carts_105 ?_
        refine R.iconst hc ic_1 dX7_carts_106 ?_
        refine R.icmpN_ne (tgt := 114) hc dX7_carts_107 (by decide) hx1 (by omega) (fun y => ?_) (fun y => ?_)
        · refine R.iconst hc ic_0 dX7_carts_114 ?_
          refine R.ist10 hc dX7_carts_115 (by decide) rfl ?_
          exact rest false (by cases u : S.testBit p; rfl; exact absurd (tb1.mpr u) y)
        · refine R.iconst hc ic_1 dX7_carts_110 ?_
          refine R.goto (tgt := 115) hc dX7_carts_111 (by decide) ?_
          refine R.ist10 hc dX7_carts_115 (by decide) rfl ?_
          exact rest true (tb1.mp y)
