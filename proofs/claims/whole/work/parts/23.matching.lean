noncomputable def matchN (G : Nat → Nat) (k : Nat) : Nat := Classical.epsilon (fun m => IsMax G k 127 m)
theorem matchN_eq {G : Nat → Nat} {k m : Nat} (h : IsMax G k 127 m) : matchN G k = m := (Classical.epsilon_spec (p := fun m => IsMax G k 127 m) ⟨m, h⟩).uniq h
theorem foL_ps (fits : Nat → Nat) (rc : Nat → (Nat → Nat) → Nat → Bool × (Nat → Nat) × Nat) (Pp : Nat → Prop) (q : Nat) (hq : Pp (q + 1)) (hrc : ∀ q h T, Pp (q + 1) → T < 128 → (∀ p, p < 7 → h p ≠ 0 → Pp (h p)) → (rc q h T).2.2 < 128 ∧ ∀ p, p < 7 → (rc q h T).2.1 p ≠ 0 → Pp ((rc q h T).2.1 p)) :
    ∀ j p h T, p + j = 7 → T < 128 → (∀ p, p < 7 → h p ≠ 0 → Pp (h p)) → (foL fits rc q j p h T).2.2 < 128 ∧ ∀ p', p' < 7 → (foL fits rc q j p h T).2.1 p' ≠ 0 → Pp ((foL fits rc q j p h T).2.1 p') := by
  intro j
  induction j with
  | zero => intro p h T _ hT hh; exact ⟨hT, hh⟩
  | succ j ih =>
    intro p h T hp hT hh
    rw [foL]
    have un_ok : ∀ h : Nat → Nat, (∀ p, p < 7 → h p ≠ 0 → Pp (h p)) → ∀ p', p' < 7 → un h p (q + 1) p' ≠ 0 → Pp (un h p (q + 1) p') := by
      intro h hh p' hp' hn
      by_cases e : p' = p
      · subst e; rw [un_s]; exact hq
      · rw [un_n e] at hn ⊢; exact hh p' hp' hn
    split
    · split
      · exact ⟨or_128 hT (by omega), un_ok h hh⟩
      · rename_i h0
        have hr := hrc (h p - 1) h (T ||| 2 ^ p) (by rw [show h p - 1 + 1 = h p by omega]; exact hh p (by omega) h0) (or_128 hT (by omega)) hh
        split
        · exact ⟨hr.1, un_ok _ hr.2⟩
        · exact ih (p + 1) _ _ (by omega) hr.1 hr.2
    · exact ih (p + 1) h T (by omega) hT hh
theorem fo_ps (fits : Nat → Nat) (Pp : Nat → Prop) : ∀ F q h T, Pp (q + 1) → T < 128 → (∀ p, p < 7 → h p ≠ 0 → Pp (h p)) → (fo fits F q h T).2.2 < 128 ∧ ∀ p, p < 7 → (fo fits F q h T).2.1 p ≠ 0 → Pp ((fo fits F q h T).2.1 p) := by
  intro F
  induction F with
  | zero => intro q h T _ hT hh; exact ⟨hT, hh⟩
  | succ F ih => intro q h T hq hT hh; exact foL_ps fits (fo fits F) Pp q hq ih 7 0 h T rfl hT hh
theorem and2p {X p : Nat} : X &&& 2 ^ p = 0 ↔ X.testBit p = false := by
  constructor
  · intro h
    have := congrArg (fun z => z.testBit p) h
    simp only [Nat.testBit_and, Nat.testBit_two_pow, Nat.zero_testBit, decide_true, Bool.and_true] at this
    exact this
  · intro h
    apply Nat.eq_of_testBit_eq
    intro i
    rw [Nat.testBit_and, Nat.testBit_two_pow, Nat.zero_testBit]
    by_cases e : p = i
    · subst e; rw [h]; rfl
    · simp [e]
theorem tst0 {A T p : Nat} (hA : A < 128) (hp : p < 7) : (nI A &&& (nI T ^^^ (-1))) &&& nI (2 ^ p) = 0 ↔ ¬ (A.testBit p = true ∧ T.testBit p = false) := by
  have e1 : (-1 : Int32) = nI 4294967295 := by decide
  rw [e1, nI_xor, nI_and, nI_and]
  have hlt : (A &&& (T ^^^ 4294967295)) &&& 2 ^ p < 2 ^ 31 := Nat.lt_of_le_of_lt (Nat.le_trans Nat.and_le_left Nat.and_le_left) (by omega)
  rw [← nI_0, nI_eq hlt (by decide), and2p, Nat.testBit_and, Nat.testBit_xor]
  have h32 : Nat.testBit 4294967295 p = true := by
    have : ∀ p, p < 7 → Nat.testBit 4294967295 p = true := by decide
    exact this p hp
  rw [h32]
  cases A.testBit p <;> cases T.testBit p <;> simp
/-- the matching's cells -/
def Mt (σ : Wd) (b : Nat) (f : Nat → Int32) (h : Nat → Nat) (T : Nat) : Prop := σ b = some (.inr (1, [.ref (b + 1), .ref (b + 2), .int (nI T)])) ∧ σ (b + 1) = some (.inl (0, 6, .inl f)) ∧ ∃ g, σ (b + 2) = some (.inl (0, 7, .inl g)) ∧ ∀ p, p < 7 → g p = cI (h p)
theorem Mt.eqo {σ σ' : Wd} {b b' m : Nat} {f : Nat → Int32} {h : Nat → Nat} {T : Nat} (hh : Mt σ b f h T) (e : Eqo b' m σ σ') (hb : b + 3 ≤ b' ∨ b' + m ≤ b) : Mt σ' b f h T := by
  obtain ⟨h1, h2, h3⟩ := hh
  refine ⟨(e _ (by omega)).trans h1, (e _ (by omega)).trans h2, ?_⟩
  rw [e _ (by omega)]; exact h3
set_option maxHeartbeats 4000000 in
set_option maxRecDepth 100000 in
theorem c_X1_findsOne (l : Launch) (d : Nat) (X : Nat × (Nat → Int32)) (n : Nat) {b : Nat} {f : Nat → Int32} {fits : Nat → Nat} : ∀ (F : Nat), F ≤ 8 → ∀ (q : Nat) (h : Nat → Nat) (T : Nat) (σ : Wd), Mt σ b f h T → T < 128 → (q < 6 ∧ f q = nI (fits q) ∧ fits q < 128) → (∀ p, p < 7 → h p ≠ 0 → (h p - 1 < 6 ∧ f (h p - 1) = nI (fits (h p - 1)) ∧ fits (h p - 1) < 128)) → CN l yX1_findsOne cX1_findsOne 5 (some .boolean) (d + F) X n [.ref b, .int (nI q), .int (nI (8 - F))] σ (fun v σ' => v = some (.int (b2 (fo fits F q h T).1)) ∧ (Mt σ' b f (fo fits F q h T).2.1 (fo fits F q h T).2.2 ∧ Eqo b 3 σ σ')) := by
  intro F
  induction F with
  | zero =>
    intro _ q h T σ hM _ _ _
    refine CN.of (by decide) [some (.ref b), some (.int (nI q)), some (.int (nI (8 - 0))), none, none] (fun _ => Nat.le_of_ble_eq_true rfl) (fun _ => rfl) (fun cx hc => ?_)
    refine R.iload_n (j := 2) (i := 2) hc rfl rfl dX1_findsOne_0 ?_
    refine R.bipush hc bp_7 dX1_findsOne_1 ?_
    refine R.icmpN_le (tgt := 8) hc dX1_findsOne_3 (by decide) (by omega) (by omega) (fun z => absurd z (by omega)) (fun _ => ?_)
    refine R.iconst hc ic_0 dX1_findsOne_6 ?_
    exact R.bret (c := false) hc rfl dX1_findsOne_7 rfl ⟨rfl, rfl, hM, Eqo.rf⟩
  | succ F ih =>
    intro hF q h T σ hM hT hq hh
    refine CN.of (by decide) [some (.ref b), some (.int (nI q)), some (.int (nI (8 - (F + 1)))), none, none] (fun _ => Nat.le_of_ble_eq_true rfl) (fun _ => rfl) (fun cx hc => ?_)
    refine R.iload_n (j := 2) (i := 2) hc rfl rfl dX1_findsOne_0 ?_
    refine R.bipush hc bp_7 dX1_findsOne_1 ?_
    refine R.icmpN_le (tgt := 8) hc dX1_findsOne_3 (by decide) (by omega) (by omega) (fun _ => ?_) (fun z => absurd (by omega) z)
    obtain ⟨hv, ehv⟩ : ∃ z, z = fo fits (F + 1) q h T := ⟨_, rfl⟩
    rw [← ehv] at hc
    have key : ∀ j p h T σ1, p + j = 7 → T < 128 → (∀ p, p < 7 → h p ≠ 0 → (h p - 1 < 6 ∧ f (h p - 1) = nI (fits (h p - 1)) ∧ fits (h p - 1) < 128)) → foL fits (fo fits F) q j p h T = hv → Mt σ1 b f h T → Eqo b 3 σ σ1 → R cx 0 0 n σ1 10 [some (.ref b), some (.int (nI q)), some (.int (nI (8 - (F + 1)))), some (.int (nI p)), none] [] := by
      intro j
      induction j with
      | zero =>
        intro p h T σ hp hT hh e hM hF9
        refine R.iload_n (j := 3) (i := 3) hc rfl rfl dX1_findsOne_10 ?_
        refine R.bipush hc bp_7 dX1_findsOne_11 ?_
        refine R.icmpN_ge (tgt := 94) hc dX1_findsOne_13 (by decide) (by omega) (by omega) (fun _ => ?_) (fun z => absurd (by omega) z)
        refine R.iconst hc ic_0 dX1_findsOne_94 ?_
        rw [foL] at e
        subst e
        exact R.bret (c := false) hc rfl dX1_findsOne_95 rfl ⟨rfl, rfl, hM, hF9⟩
      | succ j ihj =>
        intro p h T τ hp hT hh e hM hF9
        rw [foL] at e
        have next : ∀ (h2 : Nat → Nat) (T2 : Nat) (σ2 : Wd), T2 < 128 → (∀ p, p < 7 → h2 p ≠ 0 → (h2 p - 1 < 6 ∧ f (h2 p - 1) = nI (fits (h2 p - 1)) ∧ fits (h2 p - 1) < 128)) → foL fits (fo fits F) q j (p + 1) h2 T2 = hv → Mt σ2 b f h2 T2 → Eqo b 3 σ σ2 → R cx 0 0 n σ2 88 [some (.ref b), some (.int (nI q)), some (.int (nI (8 - (F + 1)))), some (.int (nI p)), none] [] := by
          intro h2 T2 σ hT2 hh2 e2 hM2 hF2
          refine R.iinc3 hc dX1_findsOne_88 (iiN1 _) (by decide) rfl ?_
          refine R.goto (tgt := 10) hc dX1_findsOne_91 (by decide) ?_
          exact ihj (p + 1) h2 T2 σ (by omega) hT2 hh2 e2 hM2 hF2
        have win : ∀ (h2 : Nat → Nat) (T2 : Nat) (σ2 : Wd), hv = (true, un h2 p (q + 1), T2) → Mt σ2 b f h2 T2 → Eqo b 3 σ σ2 → R cx 0 0 n σ2 79 [some (.ref b), some (.int (nI q)), some (.int (nI (8 - (F + 1)))), some (.int (nI p)), none] [] := by
          intro h2 T2 σ e2 hM2 hF2
          obtain ⟨h0, h1, g, h2c, hg⟩ := hM2
          refine R.aload_n (j := 0) (i := 0) hc rfl rfl dX1_findsOne_79 ?_
          refine R.get hc gf_X1_17_r dX1_findsOne_80 (h0) rfl ?_
          refine R.iload_n (j := 3) (i := 3) hc rfl rfl dX1_findsOne_83 ?_
          refine R.iload_n (j := 1) (i := 1) hc rfl rfl dX1_findsOne_84 ?_
          refine R.iastG hc dX1_findsOne_85 h2c (by omega) (by decide) (fun σ hX hE => ?_)
          refine R.iconst hc ic_1 dX1_findsOne_86 ?_
          subst e2
          refine R.bret (c := true) hc rfl dX1_findsOne_87 rfl ⟨rfl, rfl, ⟨(hE _ (by omega)).trans h0, (hE _ (by omega)).trans h1, _, hX, fun i hi => ?_⟩, hF2.tr (hE.wid (by omega))⟩
          by_cases y : i = p
          · subst y; rw [pk_us]; show nI q = cI (un h2 i (q + 1) i); rw [un_s]; rfl
          · rw [pk_un y]; show g i = cI (un h2 p (q + 1) i); rw [un_n y]; exact hg i hi
        obtain ⟨h0, h1, g, h2, hg⟩ := hM
        refine R.iload_n (j := 3) (i := 3) hc rfl rfl dX1_findsOne_10 ?_
        refine R.bipush hc bp_7 dX1_findsOne_11 ?_
        refine R.icmpN_ge (tgt := 94) hc dX1_findsOne_13 (by decide) (by omega) (by omega) (fun z => absurd z (by omega)) (fun _ => ?_)
        refine R.iconst hc ic_1 dX1_findsOne_16 ?_
        refine R.iload_n (j := 3) (i := 3) hc rfl rfl dX1_findsOne_17 ?_
        first | refine R.shl1N hc (by omega) dX1_findsOne_18 ?_ | refine R.ishl hc dX1_findsOne_18 ?_
        refine R.ist4 hc dX1_findsOne_19 (by decide) rfl ?_
        refine R.aload_n (j := 0) (i := 0) hc rfl rfl dX1_findsOne_21 ?_
        refine R.get hc gf_X1_11_r dX1_findsOne_22 (h0) rfl ?_
        refine R.iload_n (j := 1) (i := 1) hc rfl rfl dX1_findsOne_25 ?_
        refine R.iald hc h1 (by omega) (by decide) dX1_findsOne_26 ?_
        rw [hq.2.1]
        refine R.aload_n (j := 0) (i := 0) hc rfl rfl dX1_findsOne_27 ?_
        refine R.get hc gf_X1_20_r dX1_findsOne_28 (h0) rfl ?_
        refine R.iconst hc ic_m1 dX1_findsOne_31 ?_
        refine R.ixor hc dX1_findsOne_32 ?_
        refine R.iand hc dX1_findsOne_33 ?_
        refine R.iload (i := 4) hc rfl dX1_findsOne_34 ?_
        refine R.iand hc dX1_findsOne_36 ?_
        refine R.if_ne (tgt := 43) hc dX1_findsOne_37 (by decide) (fun z => ?_) (fun z => ?_)
        rotate_left
        · rw [if_neg ((tst0 hq.2.2 (by omega)).mp z)] at e
          refine R.goto (tgt := 88) hc dX1_findsOne_40 (by decide) ?_
          exact R.fg4 (next h T τ hT hh e ⟨h0, h1, g, h2, hg⟩ hF9)
        have z : (fits q).testBit p = true ∧ T.testBit p = false := by
          cases z1 : (fits q).testBit p
          · exact absurd ((tst0 hq.2.2 (by omega)).mpr (fun y => by rw [z1] at y; cases y.1)) z
          · cases z2 : T.testBit p
            · exact ⟨rfl, rfl⟩
            · exact absurd ((tst0 hq.2.2 (by omega)).mpr (fun y => by rw [z2] at y; cases y.2)) z
        rw [if_pos z] at e
        refine R.aload_n (j := 0) (i := 0) hc rfl rfl dX1_findsOne_43 ?_
        refine R.dup hc rfl dX1_findsOne_44 ?_
        refine R.get hc gf_X1_20_r dX1_findsOne_45 (h0) rfl ?_
        refine R.iload (i := 4) hc rfl dX1_findsOne_48 ?_
        first | refine R.iorN hc dX1_findsOne_50 ?_ | refine R.ior hc dX1_findsOne_50 ?_
        refine R.putG hc gf_X1_20 dX1_findsOne_51 (h0) (Nat.le_of_ble_eq_true rfl) (fun _ => rfl) (fun _ => rfl) (fun σ hX hE => ?_)
        have h1 := (hE _ (by omega)).trans h1
        have h2 := (hE _ (by omega)).trans h2
        have h0 := hX
        have hF9 := hF9.tr (hE.wid (by omega))
        refine R.aload_n (j := 0) (i := 0) hc rfl rfl dX1_findsOne_54 ?_
        refine R.get hc gf_X1_17_r dX1_findsOne_55 (h0) rfl ?_
        refine R.iload_n (j := 3) (i := 3) hc rfl rfl dX1_findsOne_58 ?_
        refine R.iald hc h2 (by omega) (by decide) dX1_findsOne_59 ?_
        rw [hg p (by omega)]
        have hT1 : T ||| 2 ^ p < 128 := or_128 hT (by omega)
        by_cases hp0 : h p = 0
        · rw [hp0]
          rw [if_pos hp0] at e
          refine R.if_lt (tgt := 79) hc dX1_findsOne_60 (by decide) (fun _ => ?_) (fun y => absurd (by decide) y)
          exact R.fg4 (win h (T ||| 2 ^ p) σ e.symm ⟨h0, h1, g, h2, hg⟩ hF9)
        · rw [if_neg hp0] at e
          have hhp := hh p (by omega) hp0
          obtain ⟨c, hcv⟩ : ∃ c, h p = c + 1 := ⟨h p - 1, by omega⟩
          rw [hcv] at hhp e
          rw [Nat.add_sub_cancel] at hhp e
          rw [hcv]
          simp only [cI]
          refine R.ifN_lt (tgt := 79) hc dX1_findsOne_60 (by decide) (by omega) ?_
          refine R.aload_n (j := 0) (i := 0) hc rfl rfl dX1_findsOne_63 ?_
          refine R.aload_n (j := 0) (i := 0) hc rfl rfl dX1_findsOne_64 ?_
          refine R.get hc gf_X1_17_r dX1_findsOne_65 (h0) rfl ?_
          refine R.iload_n (j := 3) (i := 3) hc rfl rfl dX1_findsOne_68 ?_
          refine R.iald hc h2 (by omega) (by decide) dX1_findsOne_69 ?_
          rw [hg p (by omega), hcv]
          simp only [cI]
          refine R.iload_n (j := 2) (i := 2) hc rfl rfl dX1_findsOne_70 ?_
          refine R.iconst hc ic_1 dX1_findsOne_71 ?_
          first | refine R.iaddN hc dX1_findsOne_72 ?_ | refine R.iadd hc dX1_findsOne_72 ?_
          rw [show 8 - (F + 1) + 1 = 8 - F by omega]
          refine R.cVi hc m_X1_findsOne lk_X1_35 dX1_findsOne_73 (ih (by omega) c h (T ||| 2 ^ p) σ ⟨h0, h1, g, h2, hg⟩ hT1 hhp hh) h0 rfl rfl rfl (by omega) ⟨Nat.le_refl _, Nat.le_refl _⟩ (Nat.le_of_ble_eq_true rfl) (fun σ hX => ?_)
          obtain ⟨hM, hE⟩ := hX
          have hF9 := hF9.tr hE
          have hps := fo_ps fits (fun x => x - 1 < 6 ∧ f (x - 1) = nI (fits (x - 1)) ∧ fits (x - 1) < 128) F c h (T ||| 2 ^ p) hhp hT1 hh
          refine R.ifB_eq (tgt := 88) hc dX1_findsOne_76 (by decide) (fun y => ?_) (fun y => ?_)
          · rw [if_neg (by rw [y]; decide)] at e
            exact R.fg4 (next _ _ σ hps.1 hps.2 e hM hF9)
          · rw [if_pos y] at e
            exact R.fg4 (win _ _ σ e.symm hM hF9)
    refine R.iconst hc ic_0 dX1_findsOne_8 ?_
    refine R.istn3 hc dX1_findsOne_9 (by decide) rfl ?_
    exact key 7 0 h T σ rfl hT hh ehv.symm hM Eqo.rf
/-- the puddles that are fit for one who has claimed none, a set -/
def fitG (a : SA) (np nq : Nat) (x : Nat) : Nat := if a 6 x = 0 then bsN (fun p => fitB a (clS a nq) p x (a 2 p)) np else 0
theorem fitG_lt {a : SA} {np nq x : Nat} (h7 : np ≤ 7) : fitG a np nq x < 128 := by
  unfold fitG
  split
  · exact Nat.lt_of_lt_of_le (bsN_lt _ _) (Nat.pow_le_pow_right (by omega) h7)
  · omega
set_option maxHeartbeats 4000000 in
set_option maxRecDepth 100000 in
theorem c_X1_greatest (l : Launch) (d : Nat) (X : Nat × (Nat → Int32)) (n : Nat) {σ : Wd} {b b' : Nat} {a : SA} {np nq hr dr : Nat} {f : Nat → Int32} {h : Nat → Nat} {T : Nat} (hM : Mt σ b f h T) (hS : St σ b' a np nq hr dr) (hW : WF a np nq) (hb : b + 3 ≤ b' ∨ b' + 8 ≤ b) : CN l yX1_greatest cX1_greatest 4 (some .int) ((d + 9)) X n [.ref b, .ref b'] σ (fun v σ' => v = some (.int (nI (matchN (fitG a np nq) nq))) ∧ (∃ f' h' T', Mt σ' b f' h' T' ∧ Eqo b 3 σ σ')) := by
  refine CN.of (by decide) [some (.ref b), some (.ref b'), none, none] (fun _ => Nat.le_of_ble_eq_true rfl) (fun _ => rfl) (fun cx hc => ?_)
  have hW1 := hW.1
  have hW2 := hW.2.1
  obtain ⟨h0, h1, g, h2, -⟩ := hM
  refine R.iconst hc ic_0 dX1_greatest_0 ?_
  refine R.istn2 hc dX1_greatest_1 (by decide) rfl ?_
  have lp2 : ∀ j k m f h T σ1, k + j = nq → Mt σ1 b f h T → St σ1 b' a np nq hr dr → Eqo b 3 σ σ1 → (∀ x, x < k → f x = nI (bsN (fun p => fitB a (clS a nq) p x (a 2 p)) np)) → Vd (fitG a np nq) k 127 h → cnt h = m → IsMax (fitG a np nq) k 127 m → R cx 0 0 n σ1 26 [some (.ref b), some (.ref b'), some (.int (nI m)), some (.int (nI k))] [] := by
    intro j
    induction j with
    | zero =>
      intro k m f h T σ hk hM hS hF hf hv hcn hmx
      refine R.iload_n (j := 3) (i := 3) hc rfl rfl dX1_greatest_26 ?_
      refine R.aload_n (j := 1) (i := 1) hc rfl rfl dX1_greatest_27 ?_
      refine R.get hc gf_X1_24_r dX1_greatest_28 (hS.obj) rfl ?_
      refine R.icmpN_ge (tgt := 76) hc dX1_greatest_31 (by decide) (by omega) (by omega) (fun _ => ?_) (fun z => absurd (by omega) z)
      refine R.iload_n (j := 2) (i := 2) hc rfl rfl dX1_greatest_76 ?_
      obtain rfl : k = nq := by omega
      exact R.iret hc rfl dX1_greatest_77 ⟨rfl, by rw [matchN_eq hmx], f, h, T, hM, hF⟩
    | succ j ih =>
      intro k m f h T σ hk hM hS hF hf hv hcn hmx
      have h7m : m ≤ 7 := by
        have : cnt h ≤ cnt (fun _ => 1) := cnt_le (fun _ _ _ => by omega)
        have : cnt (fun _ => 1) = 7 := rfl
        omega
      obtain ⟨h0, h1, g, h2, hg⟩ := hM
      refine R.iload_n (j := 3) (i := 3) hc rfl rfl dX1_greatest_26 ?_
      refine R.aload_n (j := 1) (i := 1) hc rfl rfl dX1_greatest_27 ?_
      refine R.get hc gf_X1_24_r dX1_greatest_28 (hS.obj) rfl ?_
      refine R.icmpN_ge (tgt := 76) hc dX1_greatest_31 (by decide) (by omega) (by omega) (fun z => absurd z (by omega)) (fun _ => ?_)
      refine R.aload_n (j := 0) (i := 0) hc rfl rfl dX1_greatest_34 ?_
      refine R.get hc gf_X1_11_r dX1_greatest_35 (h0) rfl ?_
      refine R.iload_n (j := 3) (i := 3) hc rfl rfl dX1_greatest_38 ?_
      refine R.aload_n (j := 1) (i := 1) hc rfl rfl dX1_greatest_39 ?_
      refine R.iload_n (j := 3) (i := 3) hc rfl rfl dX1_greatest_40 ?_
      refine R.cVr hc m_X4_fitSet lk_X1_27 dX1_greatest_41 (c_X4_fitSet l (d + 6) X n hS hW (by omega)) (hS.obj) rfl rfl rfl (by omega) ⟨Nat.le_refl _, Nat.le_refl _⟩ (Nat.le_of_ble_eq_true rfl) ?_
      refine R.iastG hc dX1_greatest_44 h1 (by omega) (by decide) (fun σ hX hE => ?_)
      have h0 := (hE _ (by omega)).trans h0
      have h2 := (hE _ (by omega)).trans h2
      have h1 := hX
      have hS := SX.eqo hS hE (by omega)
      have hF := hF.tr (hE.wid (by omega))
      refine R.aload_n (j := 0) (i := 0) hc rfl rfl dX1_greatest_45 ?_
      refine R.iconst hc ic_0 dX1_greatest_46 ?_
      refine R.putG hc gf_X1_20 dX1_greatest_47 (h0) (Nat.le_of_ble_eq_true rfl) (fun _ => rfl) (fun _ => rfl) (fun σ hX hE => ?_)
      have h1 := (hE _ (by omega)).trans h1
      have h2 := (hE _ (by omega)).trans h2
      have h0 := hX
      have hS := SX.eqo hS hE (by omega)
      have hF := hF.tr (hE.wid (by omega))
      refine R.aload_n (j := 1) (i := 1) hc rfl rfl dX1_greatest_50 ?_
      refine R.iload_n (j := 3) (i := 3) hc rfl rfl dX1_greatest_51 ?_
      refine R.cVr hc m_X4_hasClaimed lk_X1_31 dX1_greatest_52 (c_X4_hasClaimed l (d + 8) X n hS hW (by omega)) (hS.obj) rfl rfl rfl (by omega) ⟨Nat.le_refl _, Nat.le_refl _⟩ (Nat.le_of_ble_eq_true rfl) ?_
      have hf' : ∀ x, x < k + 1 → (upd f k (nI (bsN (fun p => fitB a (clS a nq) p k (a 2 p)) np))) x = nI (bsN (fun p => fitB a (clS a nq) p x (a 2 p)) np) := by
        intro x hx
        by_cases e : x = k
        · subst e; rw [pk_us]
        · rw [pk_un e]; exact hf x (by omega)
      have hM2 : Mt σ b (upd f k (nI (bsN (fun p => fitB a (clS a nq) p k (a 2 p)) np))) h 0 := ⟨h0, h1, g, h2, hg⟩
      refine R.ifB_ne (tgt := 70) hc dX1_greatest_55 (by decide) (fun y => ?_) (fun y => ?_)
      · refine R.iinc3 hc dX1_greatest_70 (iiN1 _) (by decide) rfl ?_
        refine R.goto (tgt := 26) hc dX1_greatest_73 (by decide) ?_
        exact ih (k + 1) m _ h 0 σ (by omega) hM2 hS hF hf' hv.up hcn (max_none hmx (by simp [hasC] at y; simp [fitG, y]))
      have y : a 6 k = 0 := by simpa [hasC] using y
      have hG : ∀ x, a 6 x = 0 → fitG a np nq x = bsN (fun p => fitB a (clS a nq) p x (a 2 p)) np := fun x hx => by simp [fitG, hx]
      have hh : ∀ p, p < 7 → h p ≠ 0 → (h p - 1 < 6 ∧ upd f k (nI (bsN (fun p => fitB a (clS a nq) p k (a 2 p)) np)) (h p - 1) = nI (fitG a np nq (h p - 1)) ∧ fitG a np nq (h p - 1) < 128) := by
        intro p hp hn
        have hvp := hv.1 p hp hn
        have ha : a 6 (h p - 1) = 0 := by
          by_cases z : a 6 (h p - 1) = 0
          · exact z
          · have := hvp.2.1; simp [fitG, z] at this
        exact ⟨by omega, by rw [hf' _ (by omega), hG _ ha], fitG_lt hW1⟩
      refine R.aload_n (j := 0) (i := 0) hc rfl rfl dX1_greatest_58 ?_
      refine R.iload_n (j := 3) (i := 3) hc rfl rfl dX1_greatest_59 ?_
      refine R.iconst hc ic_0 dX1_greatest_60 ?_
      refine R.cVi hc m_X1_findsOne lk_X1_35 dX1_greatest_61 (c_X1_findsOne l d X n (fits := fitG a np nq) 8 (Nat.le_refl _) k h 0 σ hM2 (by decide) ⟨by omega, by rw [pk_us, hG k y], fitG_lt hW1⟩ hh) h0 rfl rfl rfl (by omega) ⟨Nat.le_refl _, Nat.le_refl _⟩ (Nat.le_of_ble_eq_true rfl) (fun σ hX => ?_)
      obtain ⟨hM3, hE⟩ := hX
      have hS := SX.eqo hS hE (by omega)
      have hF := hF.tr hE
      have hsp := fo_spec (fitG a np nq) 8 k h 0 (by decide) (by decide) ⟨fun p p' hp hp' _ _ e hn => hv.2 p p' hp hp' e hn, fun p hp _ e => by have := (hv.1 p hp (by omega)).1; omega⟩
      refine R.ifB_eq (tgt := 70) hc dX1_greatest_64 (by decide) (fun z => ?_) (fun z => ?_)
      · refine R.iinc3 hc dX1_greatest_70 (iiN1 _) (by decide) rfl ?_
        refine R.goto (tgt := 26) hc dX1_greatest_73 (by decide) ?_
        have hl := hsp.2 z
        have hml := max_lost hmx hv hcn (fun _ _ => rfl) hl
        have e9 := hl.1
        rw [e9] at hM3
        exact ih (k + 1) m _ h _ σ (by omega) hM3 hS hF hf' hml.2 hcn hml.1
      · refine R.iinc2 hc dX1_greatest_67 (iiN1 _) (by decide) rfl ?_
        refine R.iinc3 hc dX1_greatest_70 (iiN1 _) (by decide) rfl ?_
        refine R.goto (tgt := 26) hc dX1_greatest_73 (by decide) ?_
        have hwn := max_won hmx hv hcn (fun _ _ => rfl) (hsp.1 z)
        exact ih (k + 1) (m + 1) _ _ _ σ (by omega) hM3 hS hF hf' hwn.2.1 hwn.2.2 hwn.1
  refine rl_down (P := fun p => ∀ (σ1 : Wd) (g : Nat → Int32), σ1 b = some (.inr (1, [.ref (b + 1), .ref (b + 2), .int (nI T)])) → σ1 (b + 1) = some (.inl (0, 6, .inl f)) → σ1 (b + 2) = some (.inl (0, 7, .inl g)) → (∀ i, i < p → g i = -4) → St σ1 b' a np nq hr dr → Eqo b 3 σ σ1 → R cx 0 0 n σ1 2 [some (.ref b), some (.ref b'), some (.int (nI p)), none] []) 7 (fun σ g h0 h1 h2 hg hS hF => ?_) (fun p hp ih σ g h0 h1 h2 hg hS hF => ?_) 0 (Nat.zero_le _) σ g h0 h1 h2 (fun i hi => absurd hi (by omega)) hS Eqo.rf
  · refine R.iload_n (j := 2) (i := 2) hc rfl rfl dX1_greatest_2 ?_
    refine R.bipush hc bp_7 dX1_greatest_3 ?_
    refine R.icmpN_ge (tgt := 22) hc dX1_greatest_5 (by decide) (by omega) (by omega) (fun _ => ?_) (fun q => absurd (Nat.le_refl _) q)
    refine R.iconst hc ic_0 dX1_greatest_22 ?_
    refine R.istn2 hc dX1_greatest_23 (by decide) rfl ?_
    refine R.iconst hc ic_0 dX1_greatest_24 ?_
    refine R.istn3 hc dX1_greatest_25 (by decide) rfl ?_
    exact lp2 nq 0 0 f (fun _ => 0) T σ (by omega) ⟨h0, h1, g, h2, fun p hp => by rw [hg p hp]; rfl⟩ hS hF (fun x hx => absurd hx (by omega)) ⟨fun p _ h => absurd rfl h, fun p p' _ _ _ h => absurd rfl h⟩ rfl (IsMax_0 _ _)
  · refine R.iload_n (j := 2) (i := 2) hc rfl rfl dX1_greatest_2 ?_
    refine R.bipush hc bp_7 dX1_greatest_3 ?_
    refine R.icmpN_ge (tgt := 22) hc dX1_greatest_5 (by decide) (by omega) (by omega) (fun q => absurd q (by omega)) (fun _ => ?_)
    refine R.aload_n (j := 0) (i := 0) hc rfl rfl dX1_greatest_8 ?_
    refine R.get hc gf_X1_17_r dX1_greatest_9 (h0) rfl ?_
    refine R.iload_n (j := 2) (i := 2) hc rfl rfl dX1_greatest_12 ?_
    refine R.bipush hc bp_m4 dX1_greatest_13 ?_
    refine R.iastG hc dX1_greatest_15 h2 (by omega) (by decide) (fun σ hX hE => ?_)
    refine R.iinc2 hc dX1_greatest_16 (iiN1 _) (by decide) rfl ?_
    refine R.goto (tgt := 2) hc dX1_greatest_19 (by decide) ?_
    refine ih σ _ ((hE _ (by omega)).trans h0) ((hE _ (by omega)).trans h1) hX (fun i hi => ?_) (SX.eqo hS hE (by omega)) (hF.tr (hE.wid (by omega)))
    by_cases e : i = p
    · subst e; rw [pk_us]
    · rw [pk_un e]; exact hg i (by omega)
