/-! the order in which people had better come: chosen, best, how many and 1 -/
abbrev OS : Type := (Nat → Nat) × (Nat → Nat) × Nat
def clr (W q : Nat) : Nat := W &&& (2 ^ q ^^^ 4294967295)
def chQ (stp : Nat → OS → OS) (W : Nat) : Nat → Nat → OS → OS
  | 0, _, s => s
  | j + 1, q, s => chQ stp W j (q + 1) (if W.testBit q = true then stp q s else s)
/-- r levels to go of m; fnd: what one finds at a level -/
def ch (fnd : Nat → Nat → Nat → Nat) (nq m : Nat) : Nat → Nat → Nat → Nat → OS → OS
  | 0, _, _, hv, s => if hv + 0 + 1 ≤ s.2.2 then s else (s.1, fun j => if j < m then s.1 j else s.2.1 j, hv + 1)
  | r + 1, W, Tk, hv, s => if hv + (r + 1) + 1 ≤ s.2.2 then s else
    chQ (fun q s => if fnd (m - (r + 1)) q Tk = 0 then ch fnd nq m r (clr W q) Tk hv (un s.1 (m - (r + 1)) q, s.2.1, s.2.2) else ch fnd nq m r (clr W q) (Tk ||| 2 ^ (fnd (m - (r + 1)) q Tk - 1)) (hv + 1) (un s.1 (m - (r + 1)) q, s.2.1, s.2.2)) W nq 0 s
def Od (σ : Wd) (b : Nat) (dep : Nat → Nat → Nat) (c bs : Nat → Nat) (np sz hl mo : Nat) : Prop :=
  σ b = some (.inr (2, [.ref (b + 1), .ref (b + 2), .ref (b + 3), .int (nI sz), .int (nI hl), .int (lnI mo)])) ∧ (∃ f, σ (b + 1) = some (.inl (0, 42, .inl f)) ∧ ∀ k p, k < sz → p < np → f (k * 7 + p) = nI (dep k p)) ∧ (∃ f, σ (b + 2) = some (.inl (0, 6, .inl f)) ∧ ∀ j, j < 6 → f j = nI (c j)) ∧ ∃ f, σ (b + 3) = some (.inl (0, 6, .inl f)) ∧ ∀ j, j < 6 → f j = nI (bs j)
theorem Od.eqo {σ σ' : Wd} {b b' m : Nat} {dep : Nat → Nat → Nat} {c bs : Nat → Nat} {np sz hl mo : Nat} (h : Od σ b dep c bs np sz hl mo) (e : Eqo b' m σ σ') (hb : b + 4 ≤ b' ∨ b' + m ≤ b) : Od σ' b dep c bs np sz hl mo := by
  obtain ⟨h1, h2, h3, h4⟩ := h
  refine ⟨(e _ (by omega)).trans h1, ?_, ?_, ?_⟩
  · rw [e _ (by omega)]; exact h2
  · rw [e _ (by omega)]; exact h3
  · rw [e _ (by omega)]; exact h4
theorem tbz {W q : Nat} : W / 2 ^ q &&& 1 = 0 ↔ W.testBit q = false := by
  rw [Nat.testBit, Nat.shiftRight_eq_div_pow, Nat.and_comm, bne_eq_false_iff_eq]
theorem clr_lt {W q k : Nat} (h : W < 2 ^ k) : clr W q < 2 ^ k := Nat.lt_of_le_of_lt Nat.and_le_left h
/-- what one finds at a level -/
def fndS (a : SA) (np hl : Nat) (dep : Nat → Nat → Nat) (L q Tk : Nat) : Nat := if L < hl then dft (fun p => fitB a Tk p q (dep L p)) (dep L) np else 0
theorem fndS_le {a : SA} {np hl : Nat} {dep : Nat → Nat → Nat} {L q Tk : Nat} : fndS a np hl dep L q Tk ≤ np := by
  unfold fndS
  split
  · exact dft_le _ _ _
  · omega
theorem ch_mo (fnd : Nat → Nat → Nat → Nat) (nq m : Nat) : ∀ r W Tk hv s B, s.2.2 ≤ B → hv + r + 1 ≤ B → (ch fnd nq m r W Tk hv s).2.2 ≤ B := by
  intro r
  induction r with
  | zero =>
    intro W Tk hv s B h1 h2
    rw [ch]
    split
    · exact h1
    · exact h2
  | succ r ih =>
    intro W Tk hv s B h1 h2
    rw [ch]
    split
    · exact h1
    · have : ∀ (stp : Nat → OS → OS), (∀ q s, s.2.2 ≤ B → (stp q s).2.2 ≤ B) → ∀ j q s, s.2.2 ≤ B → (chQ stp W j q s).2.2 ≤ B := by
        intro stp hstp j
        induction j with
        | zero => intro q s h; exact h
        | succ j ihj =>
          intro q s h
          rw [chQ]
          refine ihj _ _ ?_
          split
          · exact hstp q s h
          · exact h
      refine this _ (fun q s hs => ?_) _ _ _ h1
      split
      · exact ih _ _ _ _ _ hs (by omega)
      · exact ih _ _ _ _ _ hs (by omega)
set_option maxHeartbeats 4000000 in
set_option maxRecDepth 100000 in
theorem c_X2_choose (l : Launch) (d : Nat) (X : Nat × (Nat → Int32)) (n : Nat) {b b' : Nat} {a : SA} {np nq hr dr sz hl : Nat} {dep : Nat → Nat → Nat} (hW : WF a np nq) (hb : b + 4 ≤ b' ∨ b' + 8 ≤ b) (hsz : sz ≤ 6) (hhl : hl ≤ 1000) (hdep : ∀ k p, k < sz → p < np → dep k p ≤ 60) : ∀ (r : Nat), r ≤ sz → ∀ (W Tk hv : Nat) (c bs : Nat → Nat) (mo : Nat) (σ : Wd), W < 2 ^ 7 → Tk < 128 → hv + r ≤ 20 → mo ≤ 21 → Od σ b dep c bs np sz hl mo → St σ b' a np nq hr dr → CN l yX2_choose cX2_choose 9 none (d + 2 + r) X n [.ref b, .ref b', .int (nI (sz - r)), .int (nI W), .int (nI Tk), .int (nI hv)] σ (fun v σ' => v = none ∧ (Od σ' b dep (ch (fndS a np hl dep) nq sz r W Tk hv (c, bs, mo)).1 (ch (fndS a np hl dep) nq sz r W Tk hv (c, bs, mo)).2.1 np sz hl (ch (fndS a np hl dep) nq sz r W Tk hv (c, bs, mo)).2.2 ∧ Eqo b 4 σ σ')) := by
  have hW1 := hW.1
  have hW2 := hW.2.1
  intro r
  induction r with
  | zero =>
    intro _ W Tk hv c bs mo σ hWw hTk hhv hmo hO hS
    refine CN.of (by decide) [some (.ref b), some (.ref b'), some (.int (nI (sz - 0))), some (.int (nI W)), some (.int (nI Tk)), some (.int (nI hv)), none, none, none] (fun _ => Nat.le_of_ble_eq_true rfl) (fun _ => rfl) (fun cx hc => ?_)
    obtain ⟨h0, ⟨f1, h1, k1⟩, ⟨f2, h2, k2⟩, f3, h3, k3⟩ := hO
    refine R.iload (i := 5) hc rfl dX2_choose_0 ?_
    refine R.aload_n (j := 0) (i := 0) hc rfl rfl dX2_choose_2 ?_
    refine R.get hc gf_X2_23_r dX2_choose_3 (h0) rfl ?_
    first | refine R.iaddN hc dX2_choose_6 ?_ | refine R.iadd hc dX2_choose_6 ?_
    refine R.iload_n (j := 2) (i := 2) hc rfl rfl dX2_choose_7 ?_
    first | refine R.isubN hc (by omega) dX2_choose_8 ?_ | refine R.isub hc dX2_choose_8 ?_
    refine R.aload_n (j := 0) (i := 0) hc rfl rfl dX2_choose_9 ?_
    refine R.get hc gf_X2_30_r dX2_choose_10 (h0) rfl ?_
    have hpr : (lnI mo < nI (hv + sz - (sz - 0))) ↔ ¬ hv + 0 + 1 ≤ mo := by
      cases mo with
      | zero =>
        simp only [lnI]
        refine ⟨fun _ => by omega, fun _ => ?_⟩
        rw [Int32.lt_iff_toInt_lt, nI_toInt (by omega)]
        have h4 : (-1 : Int32).toInt = -1 := by decide
        omega
      | succ k =>
        simp only [lnI]
        rw [nI_ltI (by omega) (by omega)]
        omega
    refine R.icmp_gt (tgt := 17) hc dX2_choose_13 (by decide) (fun z => ?_) (fun z => ?_)
    rotate_left
    · have z : hv + 0 + 1 ≤ mo := by rcases Nat.lt_or_ge mo (hv + 0 + 1) with y | y; exact absurd (hpr.mpr (by omega)) z; exact y
      exact R.vret hc rfl dX2_choose_16 ⟨rfl, rfl, by rw [ch, if_pos z]; exact ⟨h0, ⟨f1, h1, k1⟩, ⟨f2, h2, k2⟩, f3, h3, k3⟩, Eqo.rf⟩
    have z := hpr.mp z
    refine R.iload_n (j := 2) (i := 2) hc rfl rfl dX2_choose_17 ?_
    refine R.aload_n (j := 0) (i := 0) hc rfl rfl dX2_choose_18 ?_
    refine R.get hc gf_X2_23_r dX2_choose_19 (h0) rfl ?_
    refine R.icmpN_lt (tgt := 49) hc dX2_choose_22 (by decide) (by omega) (by omega) (fun y => absurd y (by omega)) (fun _ => ?_)
    refine R.aload_n (j := 0) (i := 0) hc rfl rfl dX2_choose_25 ?_
    refine R.iload (i := 5) hc rfl dX2_choose_26 ?_
    refine R.putG hc gf_X2_30 dX2_choose_28 (h0) (Nat.le_of_ble_eq_true rfl) (fun _ => rfl) (fun _ => rfl) (fun σ hX hE => ?_)
    have h1 := (hE _ (by omega)).trans h1
    have h2 := (hE _ (by omega)).trans h2
    have h3 := (hE _ (by omega)).trans h3
    have h0 := hX
    have hF : Eqo b 4 _ σ := hE.wid (by omega)
    refine R.aload_n (j := 0) (i := 0) hc rfl rfl dX2_choose_31 ?_
    refine R.get hc gf_X2_17_r dX2_choose_32 (h0) rfl ?_
    refine R.iconst hc ic_0 dX2_choose_35 ?_
    refine R.aload_n (j := 0) (i := 0) hc rfl rfl dX2_choose_36 ?_
    refine R.get hc gf_X2_20_r dX2_choose_37 (h0) rfl ?_
    refine R.iconst hc ic_0 dX2_choose_40 ?_
    refine R.aload_n (j := 0) (i := 0) hc rfl rfl dX2_choose_41 ?_
    refine R.get hc gf_X2_23_r dX2_choose_42 (h0) rfl ?_
    refine R.copyiG hc lk_X2_49 dX2_choose_45 (h2) (h3) (by omega) (by omega) (by decide) (by decide) (by omega) (Nat.le_of_ble_eq_true rfl) (fun σ hX hE => ?_)
    refine R.vret hc rfl dX2_choose_48 ⟨rfl, rfl, ?_, hF.tr (hE.wid (by omega))⟩
    rw [ch, if_neg z]
    refine ⟨(hE _ (by omega)).trans h0, ⟨f1, (hE _ (by omega)).trans h1, k1⟩, ⟨f2, (hE _ (by omega)).trans h2, k2⟩, _, hX, fun j hj => ?_⟩
    by_cases y : j < sz
    · rw [pk_cpy_in (by omega) (by omega), show 0 + (j - 0) = j by omega, k2 j hj]
      simp [y]
    · rw [pk_cpy_out (by omega), k3 j hj]
      simp [y]
  | succ r ih =>
    intro hr1 W Tk hv c bs mo σ hWw hTk hhv hmo hO hS
    refine CN.of (by decide) [some (.ref b), some (.ref b'), some (.int (nI (sz - (r + 1)))), some (.int (nI W)), some (.int (nI Tk)), some (.int (nI hv)), none, none, none] (fun _ => Nat.le_of_ble_eq_true rfl) (fun _ => rfl) (fun cx hc => ?_)
    have hO0 := hO
    obtain ⟨h0, ⟨f1, h1, k1⟩, ⟨f2, h2, k2⟩, f3, h3, k3⟩ := hO0
    obtain ⟨res, hres⟩ : ∃ z, z = ch (fndS a np hl dep) nq sz (r + 1) W Tk hv (c, bs, mo) := ⟨_, rfl⟩
    rw [← hres] at hc
    refine R.iload (i := 5) hc rfl dX2_choose_0 ?_
    refine R.aload_n (j := 0) (i := 0) hc rfl rfl dX2_choose_2 ?_
    refine R.get hc gf_X2_23_r dX2_choose_3 (h0) rfl ?_
    first | refine R.iaddN hc dX2_choose_6 ?_ | refine R.iadd hc dX2_choose_6 ?_
    refine R.iload_n (j := 2) (i := 2) hc rfl rfl dX2_choose_7 ?_
    first | refine R.isubN hc (by omega) dX2_choose_8 ?_ | refine R.isub hc dX2_choose_8 ?_
    refine R.aload_n (j := 0) (i := 0) hc rfl rfl dX2_choose_9 ?_
    refine R.get hc gf_X2_30_r dX2_choose_10 (h0) rfl ?_
    have hpr : (lnI mo < nI (hv + sz - (sz - (r + 1)))) ↔ ¬ hv + (r + 1) + 1 ≤ mo := by
      cases mo with
      | zero =>
        simp only [lnI]
        refine ⟨fun _ => by omega, fun _ => ?_⟩
        rw [Int32.lt_iff_toInt_lt, nI_toInt (by omega)]
        have h4 : (-1 : Int32).toInt = -1 := by decide
        omega
      | succ k =>
        simp only [lnI]
        rw [nI_ltI (by omega) (by omega)]
        omega
    refine R.icmp_gt (tgt := 17) hc dX2_choose_13 (by decide) (fun z => ?_) (fun z => ?_)
    rotate_left
    · have z : hv + (r + 1) + 1 ≤ mo := by rcases Nat.lt_or_ge mo (hv + (r + 1) + 1) with y | y; exact absurd (hpr.mpr (by omega)) z; exact y
      exact R.vret hc rfl dX2_choose_16 ⟨rfl, rfl, by rw [hres, ch, if_pos z]; exact ⟨h0, ⟨f1, h1, k1⟩, ⟨f2, h2, k2⟩, f3, h3, k3⟩, Eqo.rf⟩
    have z := hpr.mp z
    rw [ch, if_neg z] at hres
    refine R.iload_n (j := 2) (i := 2) hc rfl rfl dX2_choose_17 ?_
    refine R.aload_n (j := 0) (i := 0) hc rfl rfl dX2_choose_18 ?_
    refine R.get hc gf_X2_23_r dX2_choose_19 (h0) rfl ?_
    refine R.icmpN_lt (tgt := 49) hc dX2_choose_22 (by decide) (by omega) (by omega) (fun _ => ?_) (fun y => absurd (by omega) y)
    have key : ∀ j q c bs mo σ1, q + j = nq → mo ≤ 21 → chQ (fun q (s : OS) => if fndS a np hl dep (sz - (r + 1)) q Tk = 0 then ch (fndS a np hl dep) nq sz r (clr W q) Tk hv (un s.1 (sz - (r + 1)) q, s.2.1, s.2.2) else ch (fndS a np hl dep) nq sz r (clr W q) (Tk ||| 2 ^ (fndS a np hl dep (sz - (r + 1)) q Tk - 1)) (hv + 1) (un s.1 (sz - (r + 1)) q, s.2.1, s.2.2)) W j q (c, bs, mo) = res → Od σ1 b dep c bs np sz hl mo → St σ1 b' a np nq hr dr → Eqo b 4 σ σ1 → R cx 0 0 n σ1 52 [some (.ref b), some (.ref b'), some (.int (nI (sz - (r + 1)))), some (.int (nI W)), some (.int (nI Tk)), some (.int (nI hv)), some (.int (nI q)), none, none] [] := by
      intro j
      induction j with
      | zero =>
        intro q c bs mo τ hq hmo e hO hS hF
        have hO0 := hO
        obtain ⟨h0, ⟨f1, h1, k1⟩, ⟨f2, h2, k2⟩, f3, h3, k3⟩ := hO0
        refine R.iload (i := 6) hc rfl dX2_choose_52 ?_
        refine R.aload_n (j := 1) (i := 1) hc rfl rfl dX2_choose_54 ?_
        refine R.get hc gf_X2_37_r dX2_choose_55 (hS.obj) rfl ?_
        refine R.icmpN_ge (tgt := 171) hc dX2_choose_58 (by decide) (by omega) (by omega) (fun _ => ?_) (fun y => absurd (by omega) y)
        rw [chQ] at e
        subst e
        exact R.vret hc rfl dX2_choose_171 ⟨rfl, rfl, hO, hF⟩
      | succ j ihj =>
        intro q c bs mo τ hq hmo e hO hS hF
        rw [chQ] at e
        have next : ∀ (c2 bs2 : Nat → Nat) (mo2 : Nat) (σ2 : Wd), mo2 ≤ 21 → chQ (fun q (s : OS) => if fndS a np hl dep (sz - (r + 1)) q Tk = 0 then ch (fndS a np hl dep) nq sz r (clr W q) Tk hv (un s.1 (sz - (r + 1)) q, s.2.1, s.2.2) else ch (fndS a np hl dep) nq sz r (clr W q) (Tk ||| 2 ^ (fndS a np hl dep (sz - (r + 1)) q Tk - 1)) (hv + 1) (un s.1 (sz - (r + 1)) q, s.2.1, s.2.2)) W j (q + 1) (c2, bs2, mo2) = res → Od σ2 b dep c2 bs2 np sz hl mo2 → St σ2 b' a np nq hr dr → Eqo b 4 σ σ2 → R cx 0 0 n σ2 165 [some (.ref b), some (.ref b'), some (.int (nI (sz - (r + 1)))), some (.int (nI W)), some (.int (nI Tk)), some (.int (nI hv)), some (.int (nI q)), none, none] [] := by
          intro c2 bs2 mo2 σ hmo2 e2 hO2 hS2 hF2
          refine R.iinc6 hc dX2_choose_165 (iiN1 _) (by decide) rfl ?_
          refine R.goto (tgt := 52) hc dX2_choose_168 (by decide) ?_
          exact ihj (q + 1) c2 bs2 mo2 σ (by omega) hmo2 e2 hO2 hS2 hF2
        have hO0 := hO
        obtain ⟨h0, ⟨f1, h1, k1⟩, ⟨f2, h2, k2⟩, f3, h3, k3⟩ := hO0
        refine R.iload (i := 6) hc rfl dX2_choose_52 ?_
        refine R.aload_n (j := 1) (i := 1) hc rfl rfl dX2_choose_54 ?_
        refine R.get hc gf_X2_37_r dX2_choose_55 (hS.obj) rfl ?_
        refine R.icmpN_ge (tgt := 171) hc dX2_choose_58 (by decide) (by omega) (by omega) (fun y => absurd y (by omega)) (fun _ => ?_)
        refine R.iload_n (j := 3) (i := 3) hc rfl rfl dX2_choose_61 ?_
        refine R.iload (i := 6) hc rfl dX2_choose_62 ?_
        first | refine R.ishrN hc (by omega) (by omega) dX2_choose_64 ?_ | refine R.ishr hc dX2_choose_64 ?_
        refine R.iconst hc ic_1 dX2_choose_65 ?_
        first | refine R.iandN hc dX2_choose_66 ?_ | refine R.iand hc dX2_choose_66 ?_
        have hw1 : W / 2 ^ q &&& 1 ≤ 1 := Nat.and_le_right
        refine R.ifN_ne (tgt := 73) hc dX2_choose_67 (by decide) (by omega) (fun y => ?_) (fun y => ?_)
        rotate_left
        · rw [if_neg (by rw [tbz.mp y]; decide)] at e
          refine R.goto (tgt := 165) hc dX2_choose_70 (by decide) ?_
          exact next c bs mo τ hmo e hO hS hF
        have y : W.testBit q = true := by
          cases hz : W.testBit q
          · exact absurd (tbz.mpr hz) y
          · rfl
        rw [if_pos y] at e
        refine R.aload_n (j := 0) (i := 0) hc rfl rfl dX2_choose_73 ?_
        refine R.get hc gf_X2_17_r dX2_choose_74 (h0) rfl ?_
        refine R.iload_n (j := 2) (i := 2) hc rfl rfl dX2_choose_77 ?_
        refine R.iload (i := 6) hc rfl dX2_choose_78 ?_
        refine R.iastG hc dX2_choose_80 h2 (by omega) (by decide) (fun σ hX hE => ?_)
        have h0 := (hE _ (by omega)).trans h0
        have h1 := (hE _ (by omega)).trans h1
        have h2 := hX
        have h3 := (hE _ (by omega)).trans h3
        have hS := SX.eqo hS hE (by omega)
        have hF := hF.tr (hE.wid (by omega))
        refine R.iload_n (j := 2) (i := 2) hc rfl rfl dX2_choose_81 ?_
        refine R.aload_n (j := 0) (i := 0) hc rfl rfl dX2_choose_82 ?_
        refine R.get hc gf_X2_27_r dX2_choose_83 (h0) rfl ?_
        have hO2 : Od σ b dep (un c (sz - (r + 1)) q) bs np sz hl mo := ⟨h0, ⟨f1, h1, k1⟩, ⟨_, h2, fun i hi => by
          by_cases ei : i = sz - (r + 1)
          · rw [ei, pk_us, un_s]
          · rw [pk_un ei, un_n ei]; exact k2 i hi⟩, f3, h3, k3⟩
        have hfl := fndS_le (a := a) (np := np) (hl := hl) (dep := dep) (L := sz - (r + 1)) (q := q) (Tk := Tk)
        have at110 : ∀ x, x = cI (fndS a np hl dep (sz - (r + 1)) q Tk) → R cx 0 0 n σ 110 [some (.ref b), some (.ref b'), some (.int (nI (sz - (r + 1)))), some (.int (nI W)), some (.int (nI Tk)), some (.int (nI hv)), some (.int (nI q)), none, none] [.int x] := by
          intro x hx
          subst hx
          refine R.ist7 hc dX2_choose_110 (by decide) rfl ?_
          refine R.iload_n (j := 3) (i := 3) hc rfl rfl dX2_choose_112 ?_
          refine R.iconst hc ic_1 dX2_choose_113 ?_
          refine R.iload (i := 6) hc rfl dX2_choose_114 ?_
          first | refine R.shl1N hc (by omega) dX2_choose_116 ?_ | refine R.ishl hc dX2_choose_116 ?_
          refine R.iconst hc ic_m1 dX2_choose_117 ?_
          refine R.ixor hc dX2_choose_118 ?_
          refine R.iand hc dX2_choose_119 ?_
          have ec : nI W &&& (nI (2 ^ q) ^^^ (-1)) = nI (clr W q) := by
            have e1 : (-1 : Int32) = nI 4294967295 := by decide
            rw [e1, nI_xor, nI_and]; rfl
          rw [ec]
          refine R.ist8 hc dX2_choose_120 (by decide) rfl ?_
          refine R.iload (i := 7) hc rfl dX2_choose_122 ?_
          have hcl : clr W q < 2 ^ 7 := clr_lt hWw
          by_cases hf0 : fndS a np hl dep (sz - (r + 1)) q Tk = 0
          · rw [hf0]
            rw [if_pos hf0] at e
            refine R.if_ge (tgt := 144) hc dX2_choose_124 (by decide) (fun w => absurd w (by decide)) (fun _ => ?_)
            refine R.aload_n (j := 0) (i := 0) hc rfl rfl dX2_choose_127 ?_
            refine R.aload_n (j := 1) (i := 1) hc rfl rfl dX2_choose_128 ?_
            refine R.iload_n (j := 2) (i := 2) hc rfl rfl dX2_choose_129 ?_
            refine R.iconst hc ic_1 dX2_choose_130 ?_
            first | refine R.iaddN hc dX2_choose_131 ?_ | refine R.iadd hc dX2_choose_131 ?_
            refine R.iload (i := 8) hc rfl dX2_choose_132 ?_
            refine R.iload (i := 4) hc rfl dX2_choose_134 ?_
            refine R.iload (i := 5) hc rfl dX2_choose_136 ?_
            rw [show sz - (r + 1) + 1 = sz - r by omega]
            refine R.cVu hc m_X2_choose lk_X2_61 dX2_choose_138 (ih (by omega) (clr W q) Tk hv (un c (sz - (r + 1)) q) bs mo σ hcl hTk (by omega) hmo hO2 hS) hO2.1 rfl rfl rfl (by omega) ⟨Nat.le_refl _, Nat.le_refl _⟩ (Nat.le_of_ble_eq_true rfl) (fun σ hX => ?_)
            obtain ⟨hO3, hE3⟩ := hX
            refine R.goto (tgt := 165) hc dX2_choose_141 (by decide) ?_
            exact R.fg7 (R.fg8 (next _ _ _ σ (ch_mo _ _ _ _ _ _ _ _ 21 hmo (by omega)) e hO3 (SX.eqo hS hE3 (by omega)) (hF.tr hE3)))
          · obtain ⟨v, hfv⟩ : ∃ v, fndS a np hl dep (sz - (r + 1)) q Tk = v + 1 := ⟨fndS a np hl dep (sz - (r + 1)) q Tk - 1, by omega⟩
            rw [if_neg hf0] at e
            rw [hfv] at hfl e
            rw [hfv]
            simp only [cI]
            have hv31 : 2 ^ v < 2 ^ 7 := Nat.pow_lt_pow_right (by omega) (by omega)
            refine R.ifN_ge (tgt := 144) hc dX2_choose_124 (by decide) (by omega) ?_
            refine R.aload_n (j := 0) (i := 0) hc rfl rfl dX2_choose_144 ?_
            refine R.aload_n (j := 1) (i := 1) hc rfl rfl dX2_choose_145 ?_
            refine R.iload_n (j := 2) (i := 2) hc rfl rfl dX2_choose_146 ?_
            refine R.iconst hc ic_1 dX2_choose_147 ?_
            first | refine R.iaddN hc dX2_choose_148 ?_ | refine R.iadd hc dX2_choose_148 ?_
            refine R.iload (i := 8) hc rfl dX2_choose_149 ?_
            refine R.iload (i := 4) hc rfl dX2_choose_151 ?_
            refine R.iconst hc ic_1 dX2_choose_153 ?_
            refine R.iload (i := 7) hc rfl dX2_choose_154 ?_
            first | refine R.shl1N hc (by omega) dX2_choose_156 ?_ | refine R.ishl hc dX2_choose_156 ?_
            first | refine R.iorN hc dX2_choose_157 ?_ | refine R.ior hc dX2_choose_157 ?_
            refine R.iload (i := 5) hc rfl dX2_choose_158 ?_
            refine R.iconst hc ic_1 dX2_choose_160 ?_
            first | refine R.iaddN hc dX2_choose_161 ?_ | refine R.iadd hc dX2_choose_161 ?_
            rw [show sz - (r + 1) + 1 = sz - r by omega]
            have hTk2 : Tk ||| 2 ^ v < 128 := or_128 hTk (by omega)
            refine R.cVu hc m_X2_choose lk_X2_61 dX2_choose_162 (ih (by omega) (clr W q) (Tk ||| 2 ^ v) (hv + 1) (un c (sz - (r + 1)) q) bs mo σ hcl hTk2 (by omega) hmo hO2 hS) hO2.1 rfl rfl rfl (by omega) ⟨Nat.le_refl _, Nat.le_refl _⟩ (Nat.le_of_ble_eq_true rfl) (fun σ hX => ?_)
            obtain ⟨hO3, hE3⟩ := hX
            exact R.fg7 (R.fg8 (next _ _ _ σ (ch_mo _ _ _ _ _ _ _ _ 21 hmo (by omega)) e hO3 (SX.eqo hS hE3 (by omega)) (hF.tr hE3)))
        refine R.icmpN_ge (tgt := 108) hc dX2_choose_86 (by decide) (by omega) (by omega) (fun w => ?_) (fun w => ?_)
        · refine R.bipush hc bp_m4 dX2_choose_108 ?_
          exact at110 _ (by rw [fndS, if_neg (by omega)]; rfl)
        · refine R.aload_n (j := 1) (i := 1) hc rfl rfl dX2_choose_89 ?_
          refine R.iload (i := 6) hc rfl dX2_choose_90 ?_
          refine R.iload (i := 4) hc rfl dX2_choose_92 ?_
          refine R.aload_n (j := 0) (i := 0) hc rfl rfl dX2_choose_94 ?_
          refine R.get hc gf_X2_11_r dX2_choose_95 (h0) rfl ?_
          refine R.iload_n (j := 2) (i := 2) hc rfl rfl dX2_choose_98 ?_
          refine R.bipush hc bp_7 dX2_choose_99 ?_
          first | refine R.imulN hc dX2_choose_101 ?_ | refine R.imul hc dX2_choose_101 ?_
          refine R.cVr hc m_X4_deepestFit lk_X2_65 dX2_choose_102 (c_X4_deepestFit (fr := (sz - (r + 1)) * 7) (dp := dep (sz - (r + 1))) l (d + r) X n hS hW (by omega) (by omega) ⟨f1, 42, h1, by omega, by decide, fun p hp => k1 _ p (by omega) hp⟩ (fun p hp => hdep _ p (by omega) hp)) (hS.obj) rfl rfl rfl (by omega) ⟨Nat.le_refl _, Nat.le_refl _⟩ (Nat.le_of_ble_eq_true rfl) ?_
          refine R.goto (tgt := 110) hc dX2_choose_105 (by decide) ?_
          exact at110 _ (by rw [fndS, if_pos (by omega)])
    refine R.iconst hc ic_0 dX2_choose_49 ?_
    refine R.ist6 hc dX2_choose_50 (by decide) rfl ?_
    exact key nq 0 c bs mo σ (by omega) hmo hres.symm hO hS Eqo.rf
set_option maxHeartbeats 4000000 in
set_option maxRecDepth 100000 in
theorem c_X2_nth (l : Launch) (d : Nat) (X : Nat × (Nat → Int32)) (n : Nat) {σ : Wd} {b : Nat} {dep : Nat → Nat → Nat} {c bs : Nat → Nat} {np sz hl mo : Nat} (hO : Od σ b dep c bs np sz hl mo) (hsz : sz ≤ 6) (k : Int32) : CN l yX2_nth cX2_nth 2 (some .int) (d) X n [.ref b, .int k] σ (fun v σ' => v = some (.int (if inI k sz then nI (bs k.toNatClampNeg) else -4)) ∧ σ' = σ) := by
  refine CN.of (by decide) [some (.ref b), some (.int k)] (fun _ => Nat.le_of_ble_eq_true rfl) (fun _ => rfl) (fun cx hc => ?_)
  obtain ⟨h0, -, -, f3, h3, k3⟩ := hO
  refine R.iload_n (j := 1) (i := 1) hc rfl rfl dX2_nth_0 ?_
  refine R.if_lt (tgt := 21) hc dX2_nth_1 (by decide) (fun q => ?_) (fun q => ?_)
  · refine R.bipush hc bp_m4 dX2_nth_21 ?_
    have e9 : (-4) = if inI k sz then nI (bs k.toNatClampNeg) else -4 := by
      rw [if_neg (by simp [inI, q])]
    exact R.iret hc rfl dX2_nth_23 ⟨rfl, congrArg (fun z => some (Value.int z)) e9, rfl⟩
  obtain ⟨j, hj, rfl⟩ := nI_of q
  refine R.iload_n (j := 1) (i := 1) hc rfl rfl dX2_nth_4 ?_
  refine R.aload_n (j := 0) (i := 0) hc rfl rfl dX2_nth_5 ?_
  refine R.get hc gf_X2_23_r dX2_nth_6 (h0) rfl ?_
  refine R.icmpN_ge (tgt := 21) hc dX2_nth_9 (by decide) (by omega) (by omega) (fun z => ?_) (fun z => ?_)
  · refine R.bipush hc bp_m4 dX2_nth_21 ?_
    have e9 : (-4) = if inI (nI j) sz then nI (bs (nI j).toNatClampNeg) else -4 := by
      rw [inI_nI hj (by omega), if_neg (by simp; omega)]
    exact R.iret hc rfl dX2_nth_23 ⟨rfl, congrArg (fun z => some (Value.int z)) e9, rfl⟩
  · refine R.aload_n (j := 0) (i := 0) hc rfl rfl dX2_nth_12 ?_
    refine R.get hc gf_X2_20_r dX2_nth_13 (h0) rfl ?_
    refine R.iload_n (j := 1) (i := 1) hc rfl rfl dX2_nth_16 ?_
    refine R.iald hc h3 (by omega) (by decide) dX2_nth_17 ?_
    rw [k3 j (by omega)]
    refine R.goto (tgt := 23) hc dX2_nth_18 (by decide) ?_
    have e9 : nI (bs j) = if inI (nI j) sz then nI (bs (nI j).toNatClampNeg) else -4 := by
      rw [inI_nI hj (by omega), if_pos (by simp; omega), nI_clamp hj]
    exact R.iret hc rfl dX2_nth_23 ⟨rfl, congrArg (fun z => some (Value.int z)) e9, rfl⟩
