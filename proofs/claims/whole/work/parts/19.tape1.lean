/-- the tape at b: the letters, how many, the place of the reader -/
def Tp (σ : Wd) (b : Nat) (tp : Nat → Nat) (tl pl : Nat) : Prop := σ b = some (.inr (5, [.ref (b + 1), .int (nI tl), .int (nI pl)])) ∧ ∃ f, σ (b + 1) = some (.inl (2, 90, .inl f)) ∧ ∀ i, i < tl → f i = nI (tp i)
def WT (tp : Nat → Nat) (tl : Nat) : Prop := tl ≤ 90 ∧ ∀ i, i < tl → 32 ≤ tp i ∧ tp i < 127
theorem Tp.eqo {σ σ' : Wd} {b b' m : Nat} {tp : Nat → Nat} {tl pl : Nat} (h : Tp σ b tp tl pl) (e : Eqo b' m σ σ') (hb : b + 2 ≤ b' ∨ b' + m ≤ b) : Tp σ' b tp tl pl := by
  obtain ⟨h1, h2⟩ := h
  refine ⟨(e _ (by omega)).trans h1, ?_⟩
  rw [e _ (by omega)]; exact h2
theorem Tp.obj {σ : Wd} {b : Nat} {tp : Nat → Nat} {tl pl : Nat} (h : Tp σ b tp tl pl) : σ b = some (.inr (5, [.ref (b + 1), .int (nI tl), .int (nI pl)])) := h.1
theorem Tp.let {σ : Wd} {b : Nat} {tp : Nat → Nat} {tl pl : Nat} (h : Tp σ b tp tl pl) {i : Nat} (hi : i < tl) : ∃ f : Nat → Int32, σ (b + 1) = some (.inl (2, 90, .inl f)) ∧ f i = nI (tp i) := h.2.elim fun f hf => ⟨f, hf.1, hf.2 i hi⟩
abbrev TP (b : Nat) (tp : Nat → Nat) (tl pl : Nat) (σ0 : Wd) : Wd → Prop := fun σ' => Tp σ' b tp tl pl ∧ Eqo b 2 σ0 σ'
theorem Tp.p2 {σ : Wd} {b : Nat} {tp : Nat → Nat} {tl pl : Nat} (h : Tp σ b tp tl pl) (x : Nat) : ∃ fs : List Value, σ b = some (.inr (5, fs)) ∧ 2 < fs.length ∧ TP b tp tl x σ (rl_up σ b (.inr (5, fs.set 2 (.int (nI x))))) := ⟨_, h.1, Nat.le_of_ble_eq_true rfl, ⟨rl_up_s, h.2.elim fun f hf => ⟨f, by rw [rl_up_n (by omega)]; exact hf.1, hf.2⟩⟩, Eqo.up (by omega)⟩
theorem Tp.p1 {σ : Wd} {b : Nat} {tp : Nat → Nat} {tl pl : Nat} (h : Tp σ b tp tl pl) (x : Nat) (hx : x ≤ tl) : ∃ fs : List Value, σ b = some (.inr (5, fs)) ∧ 1 < fs.length ∧ TP b tp x pl σ (rl_up σ b (.inr (5, fs.set 1 (.int (nI x))))) := ⟨_, h.1, Nat.le_of_ble_eq_true rfl, ⟨rl_up_s, h.2.elim fun f hf => ⟨f, by rw [rl_up_n (by omega)]; exact hf.1, fun i hi => hf.2 i (by omega)⟩⟩, Eqo.up (by omega)⟩
theorem R.caldE {cx : Cx} {l : Launch} {y : MethodName} {cc : ByteArray} {nL : Nat} {ret : Option FieldType} {d mc ms n0 : Nat} {X : Nat × (Nat → Int32)} {Q : Option Value → Nat → Wd → Prop} {kc ks n : Nat} {σ : Wd} {pc : Nat} {ls : List (Option Value)} {st : List Value} (hc : cx = (l, y, cc, nL, ret, d, mc, ms, n0, X, Q)) {i m9 j : Nat} {x : Int32} (hd : decode cc pc = .ok (.caload, 1)) (he : ∃ f : Nat → Int32, σ i = some (.inl (2, m9, .inl f)) ∧ f j = x) (hj : j < m9) (hm : m9 < 2 ^ 31) (k : R cx kc ks n σ (pc + 1) ls (.int x :: st)) : R cx kc ks n σ pc ls (.int (nI j) :: .ref i :: st) := by
  obtain ⟨f, h1, h2⟩ := he
  exact R.cald hc h1 hj hm hd (by rw [h2]; exact k)
def Eq2 (b m b' m' : Nat) (σ σ' : Wd) : Prop := ∀ j, (j < b ∨ b + m ≤ j) → (j < b' ∨ b' + m' ≤ j) → σ' j = σ j
theorem Eq2.rf {b m b' m' : Nat} {σ : Wd} : Eq2 b m b' m' σ σ := fun _ _ _ => rfl
theorem Eq2.l {b m b' m' : Nat} {σ σ' σ'' : Wd} (h : Eq2 b m b' m' σ σ') (e : Eqo b m σ' σ'') : Eq2 b m b' m' σ σ'' := fun j h1 h2 => (e j h1).trans (h j h1 h2)
theorem Eq2.r {b m b' m' : Nat} {σ σ' σ'' : Wd} (h : Eq2 b m b' m' σ σ') (e : Eqo b' m' σ' σ'') : Eq2 b m b' m' σ σ'' := fun j h1 h2 => (e j h2).trans (h j h1 h2)
set_option maxHeartbeats 4000000 in
set_option maxRecDepth 100000 in
theorem c_X5_faultAt (l : Launch) (d : Nat) (X : Nat × (Nat → Int32)) (n : Nat) {σ : Wd} (i : Nat) : CN l yX5_faultAt cX5_faultAt 1 (some .int) (d) X n [.int (nI i)] σ (fun v σ' => v = some (.int (fI i)) ∧ σ' = σ) := by
  refine CN.of (by decide) [some (.int (nI i))] (fun _ => Nat.le_of_ble_eq_true rfl) (fun _ => rfl) (fun cx hc => ?_)
  refine R.bipush hc bp_m20 dX5_faultAt_0 ?_
  refine R.iload_n (j := 0) (i := 0) hc rfl rfl dX5_faultAt_2 ?_
  refine R.isub hc dX5_faultAt_3 ?_
  exact R.iret hc rfl dX5_faultAt_4 ⟨rfl, rfl, rfl⟩
set_option maxHeartbeats 4000000 in
set_option maxRecDepth 100000 in
theorem c_X5_skipBlanks (l : Launch) (d : Nat) (X : Nat × (Nat → Int32)) (n : Nat) {σ : Wd} {b : Nat} {tp : Nat → Nat} {tl pl : Nat} (hT : Tp σ b tp tl pl) (hU : WT tp tl) (hpl : pl ≤ tl) : CN l yX5_skipBlanks cX5_skipBlanks 1 none (d) X n [.ref b] σ (fun v σ' => v = none ∧ (Tp σ' b tp tl (sk tp tl pl) ∧ Eqo b 2 σ σ')) := by
  refine CN.of (by decide) [some (.ref b)] (fun _ => Nat.le_of_ble_eq_true rfl) (fun _ => rfl) (fun cx hc => ?_)
  have hU1 := hU.1
  have key : ∀ j i, i + j = tl → sk tp tl i = sk tp tl pl → ∀ σ1, Tp σ1 b tp tl i → Eqo b 2 σ σ1 → R cx 0 0 n σ1 0 [some (.ref b)] [] := by
    intro j
    induction j with
    | zero =>
      intro i hi e σ hT hF
      refine R.aload_n (j := 0) (i := 0) hc rfl rfl dX5_skipBlanks_0 ?_
      refine R.get hc gf_X5_19_r dX5_skipBlanks_1 (hT.obj) rfl ?_
      refine R.aload_n (j := 0) (i := 0) hc rfl rfl dX5_skipBlanks_4 ?_
      refine R.get hc gf_X5_15_r dX5_skipBlanks_5 (hT.obj) rfl ?_
      refine R.icmpN_ge (tgt := 38) hc dX5_skipBlanks_8 (by decide) (by omega) (by omega) (fun _ => ?_) (fun z => absurd (by omega) z)
      exact R.vret hc rfl dX5_skipBlanks_38 ⟨rfl, rfl, by rw [← e, sk_here (Or.inl (by omega))]; exact hT, hF⟩
    | succ j ih =>
      intro i hi e σ hT hF
      have hU2 := hU.2 i (by omega)
      refine R.aload_n (j := 0) (i := 0) hc rfl rfl dX5_skipBlanks_0 ?_
      refine R.get hc gf_X5_19_r dX5_skipBlanks_1 (hT.obj) rfl ?_
      refine R.aload_n (j := 0) (i := 0) hc rfl rfl dX5_skipBlanks_4 ?_
      refine R.get hc gf_X5_15_r dX5_skipBlanks_5 (hT.obj) rfl ?_
      refine R.icmpN_ge (tgt := 38) hc dX5_skipBlanks_8 (by decide) (by omega) (by omega) (fun z => absurd z (by omega)) (fun _ => ?_)
      refine R.aload_n (j := 0) (i := 0) hc rfl rfl dX5_skipBlanks_11 ?_
      refine R.get hc gf_X5_11_r dX5_skipBlanks_12 (hT.obj) rfl ?_
      refine R.aload_n (j := 0) (i := 0) hc rfl rfl dX5_skipBlanks_15 ?_
      refine R.get hc gf_X5_19_r dX5_skipBlanks_16 (hT.obj) rfl ?_
      refine R.caldE hc dX5_skipBlanks_19 (hT.let (by omega)) (by omega) (by decide) ?_
      refine R.bipush hc bp_32 dX5_skipBlanks_20 ?_
      refine R.icmpN_ne (tgt := 38) hc dX5_skipBlanks_22 (by decide) (by omega) (by omega) (fun z => ?_) (fun z => ?_)
      · exact R.vret hc rfl dX5_skipBlanks_38 ⟨rfl, rfl, by rw [← e, sk_here (Or.inr z)]; exact hT, hF⟩
      · refine R.aload_n (j := 0) (i := 0) hc rfl rfl dX5_skipBlanks_25 ?_
        refine R.dup hc rfl dX5_skipBlanks_26 ?_
        refine R.get hc gf_X5_19_r dX5_skipBlanks_27 (hT.obj) rfl ?_
        refine R.iconst hc ic_1 dX5_skipBlanks_30 ?_
        first | refine R.iaddN hc dX5_skipBlanks_31 ?_ | refine R.iadd hc dX5_skipBlanks_31 ?_
        refine R.putW hc gf_X5_19 dX5_skipBlanks_32 (hT.p2 _) (fun _ => rfl) (fun _ => rfl) (fun σ hX => ?_)
        obtain ⟨hT, hE⟩ := hX
        refine R.goto (tgt := 0) hc dX5_skipBlanks_35 (by decide) ?_
        exact ih (i + 1) (by omega) (by rw [← e, sk_step (by omega) z]) σ hT (hF.tr hE)
  exact key (tl - pl) pl (by omega) rfl σ hT Eqo.rf
set_option maxHeartbeats 4000000 in
set_option maxRecDepth 100000 in
theorem c_X5_digitHere (l : Launch) (d : Nat) (X : Nat × (Nat → Int32)) (n : Nat) {σ : Wd} {b : Nat} {tp : Nat → Nat} {tl pl : Nat} (hT : Tp σ b tp tl pl) (hU : WT tp tl) (hpl : pl ≤ tl) : CN l yX5_digitHere cX5_digitHere 1 (some .int) (d) X n [.ref b] σ (fun v σ' => v = some (.int (lnI (dgt tp tl pl))) ∧ σ' = σ) := by
  refine CN.of (by decide) [some (.ref b)] (fun _ => Nat.le_of_ble_eq_true rfl) (fun _ => rfl) (fun cx hc => ?_)
  have hU1 := hU.1
  refine R.aload_n (j := 0) (i := 0) hc rfl rfl dX5_digitHere_0 ?_
  refine R.get hc gf_X5_19_r dX5_digitHere_1 (hT.obj) rfl ?_
  refine R.aload_n (j := 0) (i := 0) hc rfl rfl dX5_digitHere_4 ?_
  refine R.get hc gf_X5_15_r dX5_digitHere_5 (hT.obj) rfl ?_
  refine R.icmpN_ge (tgt := 39) hc dX5_digitHere_8 (by decide) (by omega) (by omega) (fun z => ?_) (fun z => ?_)
  · refine R.iconst hc ic_m1 dX5_digitHere_39 ?_
    have e9 : (-1) = lnI (dgt tp tl pl) := by
      rw [dgt, if_neg (by omega)]; rfl
    exact R.iret hc rfl dX5_digitHere_40 ⟨rfl, by rw [e9], rfl⟩
  have hU2 := hU.2 pl (by omega)
  refine R.aload_n (j := 0) (i := 0) hc rfl rfl dX5_digitHere_11 ?_
  refine R.get hc gf_X5_11_r dX5_digitHere_12 (hT.obj) rfl ?_
  refine R.aload_n (j := 0) (i := 0) hc rfl rfl dX5_digitHere_15 ?_
  refine R.get hc gf_X5_19_r dX5_digitHere_16 (hT.obj) rfl ?_
  refine R.caldE hc dX5_digitHere_19 (hT.let (by omega)) (by omega) (by decide) ?_
  refine R.bipush hc bp_48 dX5_digitHere_20 ?_
  refine R.icmpN_lt (tgt := 39) hc dX5_digitHere_22 (by decide) (by omega) (by omega) (fun y => ?_) (fun y => ?_)
  · refine R.iconst hc ic_m1 dX5_digitHere_39 ?_
    have e9 : (-1) = lnI (dgt tp tl pl) := by
      rw [dgt, if_neg (by omega)]; rfl
    exact R.iret hc rfl dX5_digitHere_40 ⟨rfl, by rw [e9], rfl⟩
  refine R.aload_n (j := 0) (i := 0) hc rfl rfl dX5_digitHere_25 ?_
  refine R.get hc gf_X5_11_r dX5_digitHere_26 (hT.obj) rfl ?_
  refine R.aload_n (j := 0) (i := 0) hc rfl rfl dX5_digitHere_29 ?_
  refine R.get hc gf_X5_19_r dX5_digitHere_30 (hT.obj) rfl ?_
  refine R.caldE hc dX5_digitHere_33 (hT.let (by omega)) (by omega) (by decide) ?_
  refine R.bipush hc bp_57 dX5_digitHere_34 ?_
  refine R.icmpN_le (tgt := 41) hc dX5_digitHere_36 (by decide) (by omega) (by omega) (fun x => ?_) (fun x => ?_)
  · refine R.aload_n (j := 0) (i := 0) hc rfl rfl dX5_digitHere_41 ?_
    refine R.get hc gf_X5_11_r dX5_digitHere_42 (hT.obj) rfl ?_
    refine R.aload_n (j := 0) (i := 0) hc rfl rfl dX5_digitHere_45 ?_
    refine R.get hc gf_X5_19_r dX5_digitHere_46 (hT.obj) rfl ?_
    refine R.caldE hc dX5_digitHere_49 (hT.let (by omega)) (by omega) (by decide) ?_
    refine R.bipush hc bp_48 dX5_digitHere_50 ?_
    first | refine R.isubN hc (by omega) dX5_digitHere_52 ?_ | refine R.isub hc dX5_digitHere_52 ?_
    have e9 : nI (tp pl - 48) = lnI (dgt tp tl pl) := by
      rw [dgt, if_pos (by omega)]; rfl
    exact R.iret hc rfl dX5_digitHere_53 ⟨rfl, by rw [e9], rfl⟩
  · refine R.iconst hc ic_m1 dX5_digitHere_39 ?_
    have e9 : (-1) = lnI (dgt tp tl pl) := by
      rw [dgt, if_neg (by omega)]; rfl
    exact R.iret hc rfl dX5_digitHere_40 ⟨rfl, by rw [e9], rfl⟩
set_option maxHeartbeats 4000000 in
set_option maxRecDepth 100000 in
theorem c_X5_take (l : Launch) (d : Nat) (X : Nat × (Nat → Int32)) (n : Nat) {σ : Wd} {b : Nat} {tp : Nat → Nat} {tl pl : Nat} (hT : Tp σ b tp tl pl) (hU : WT tp tl) (hpl : pl ≤ tl) {c : Nat} (hc9 : c < 128) : CN l yX5_take cX5_take 2 (some .boolean) ((d + 1)) X n [.ref b, .int (nI c)] σ (fun v σ' => v = some (.int (b2 (takeB tp tl c pl))) ∧ (Tp σ' b tp tl (takeE tp tl c pl) ∧ Eqo b 2 σ σ')) := by
  refine CN.of (by decide) [some (.ref b), some (.int (nI c))] (fun _ => Nat.le_of_ble_eq_true rfl) (fun _ => rfl) (fun cx hc => ?_)
  have hU1 := hU.1
  refine R.aload_n (j := 0) (i := 0) hc rfl rfl dX5_take_0 ?_
  refine R.cVu hc m_X5_skipBlanks lk_X5_38 dX5_take_1 (c_X5_skipBlanks l d X n hT hU hpl) (hT.obj) rfl rfl rfl (by omega) ⟨Nat.le_refl _, Nat.le_refl _⟩ (Nat.le_of_ble_eq_true rfl) (fun σ hX => ?_)
  obtain ⟨hT, hF⟩ := hX
  have hs := sk_le (tp := tp) hpl
  refine R.aload_n (j := 0) (i := 0) hc rfl rfl dX5_take_4 ?_
  refine R.get hc gf_X5_19_r dX5_take_5 (hT.obj) rfl ?_
  refine R.aload_n (j := 0) (i := 0) hc rfl rfl dX5_take_8 ?_
  refine R.get hc gf_X5_15_r dX5_take_9 (hT.obj) rfl ?_
  refine R.icmpN_ge (tgt := 28) hc dX5_take_12 (by decide) (by omega) (by omega) (fun z => ?_) (fun z => ?_)
  · refine R.iconst hc ic_0 dX5_take_28 ?_
    have e9 : takeB tp tl c pl = false := by rw [takeB, decide_eq_false (by omega)]
    exact R.bret (c := false) hc rfl dX5_take_29 rfl ⟨rfl, by rw [e9]; rfl, by rw [takeE, e9]; exact hT, hF⟩
  have hU2 := hU.2 (sk tp tl pl) (by omega)
  refine R.aload_n (j := 0) (i := 0) hc rfl rfl dX5_take_15 ?_
  refine R.get hc gf_X5_11_r dX5_take_16 (hT.obj) rfl ?_
  refine R.aload_n (j := 0) (i := 0) hc rfl rfl dX5_take_19 ?_
  refine R.get hc gf_X5_19_r dX5_take_20 (hT.obj) rfl ?_
  refine R.caldE hc dX5_take_23 (hT.let (by omega)) (by omega) (by decide) ?_
  refine R.iload_n (j := 1) (i := 1) hc rfl rfl dX5_take_24 ?_
  refine R.icmpN_eq (tgt := 30) hc dX5_take_25 (by decide) (by omega) (by omega) (fun y => ?_) (fun y => ?_)
  · refine R.aload_n (j := 0) (i := 0) hc rfl rfl dX5_take_30 ?_
    refine R.dup hc rfl dX5_take_31 ?_
    refine R.get hc gf_X5_19_r dX5_take_32 (hT.obj) rfl ?_
    refine R.iconst hc ic_1 dX5_take_35 ?_
    first | refine R.iaddN hc dX5_take_36 ?_ | refine R.iadd hc dX5_take_36 ?_
    refine R.putW hc gf_X5_19 dX5_take_37 (hT.p2 _) (fun _ => rfl) (fun _ => rfl) (fun σ hX => ?_)
    obtain ⟨hT, hE⟩ := hX
    have hF := hF.tr hE
    refine R.iconst hc ic_1 dX5_take_40 ?_
    have e9 : takeB tp tl c pl = true := by rw [takeB, decide_eq_true (by omega)]
    exact R.bret (c := true) hc rfl dX5_take_41 rfl ⟨rfl, by rw [e9]; rfl, by rw [takeE, e9]; exact hT, hF⟩
  · refine R.iconst hc ic_0 dX5_take_28 ?_
    have e9 : takeB tp tl c pl = false := by rw [takeB, decide_eq_false (by omega)]
    exact R.bret (c := false) hc rfl dX5_take_29 rfl ⟨rfl, by rw [e9]; rfl, by rw [takeE, e9]; exact hT, hF⟩
set_option maxHeartbeats 4000000 in
set_option maxRecDepth 100000 in
theorem c_X5_parseKind (l : Launch) (d : Nat) (X : Nat × (Nat → Int32)) (n : Nat) {σ : Wd} {b : Nat} {tp : Nat → Nat} {tl pl : Nat} (hT : Tp σ b tp tl pl) (hU : WT tp tl) (hpl : pl ≤ tl) : CN l yX5_parseKind cX5_parseKind 2 (some .int) ((d + 4)) X n [.ref b] σ (fun v σ' => v = some (.int (resI (kindP tp tl pl))) ∧ (∃ pl', pl' ≤ tl ∧ (∀ q, kindP tp tl pl = .inr q → pl' = q.2) ∧ Tp σ' b tp tl pl' ∧ Eqo b 2 σ σ')) := by
  refine CN.of (by decide) [some (.ref b), none] (fun _ => Nat.le_of_ble_eq_true rfl) (fun _ => rfl) (fun cx hc => ?_)
  have hU1 := hU.1
  refine R.aload_n (j := 0) (i := 0) hc rfl rfl dX5_parseKind_0 ?_
  refine R.cVu hc m_X5_skipBlanks lk_X5_38 dX5_parseKind_1 (c_X5_skipBlanks l (d + 3) X n hT hU hpl) (hT.obj) rfl rfl rfl (by omega) ⟨Nat.le_refl _, Nat.le_refl _⟩ (Nat.le_of_ble_eq_true rfl) (fun σ hX => ?_)
  obtain ⟨hT, hF⟩ := hX
  have hs := sk_le (tp := tp) hpl
  refine R.aload_n (j := 0) (i := 0) hc rfl rfl dX5_parseKind_4 ?_
  refine R.get hc gf_X5_19_r dX5_parseKind_5 (hT.obj) rfl ?_
  refine R.aload_n (j := 0) (i := 0) hc rfl rfl dX5_parseKind_8 ?_
  refine R.get hc gf_X5_15_r dX5_parseKind_9 (hT.obj) rfl ?_
  refine R.icmpN_ge (tgt := 32) hc dX5_parseKind_12 (by decide) (by omega) (by omega) (fun z => ?_) (fun z => ?_)
  · refine R.iconst hc ic_m1 dX5_parseKind_32 ?_
    refine R.istn1 hc dX5_parseKind_33 (by decide) rfl ?_
    refine R.iload_n (j := 1) (i := 1) hc rfl rfl dX5_parseKind_34 ?_
    refine R.if_ge (tgt := 46) hc dX5_parseKind_35 (by decide) (fun q => absurd q (by decide)) (fun _ => ?_)
    refine R.aload_n (j := 0) (i := 0) hc rfl rfl dX5_parseKind_38 ?_
    refine R.get hc gf_X5_19_r dX5_parseKind_39 (hT.obj) rfl ?_
    refine R.cSr hc m_X5_faultAt lk_X5_41 dX5_parseKind_42 (c_X5_faultAt l (d + 3) X n _) rfl rfl (by omega) ⟨Nat.le_refl _, Nat.le_refl _⟩ (Nat.le_of_ble_eq_true rfl) ?_
    have e9 : kindP tp tl pl = .inl (sk tp tl pl) := by rw [kindP, if_neg (by omega)]
    exact R.iret hc rfl dX5_parseKind_45 ⟨rfl, by rw [e9]; rfl, _, hs.2, fun q hq => (by rw [e9] at hq; cases hq), hT, hF⟩
  have hU2 := hU.2 (sk tp tl pl) (by omega)
  refine R.ldcS hc rfl dX5_parseKind_15 ?_
  refine R.aload_n (j := 0) (i := 0) hc rfl rfl dX5_parseKind_17 ?_
  refine R.get hc gf_X5_11_r dX5_parseKind_18 (hT.obj) rfl ?_
  refine R.aload_n (j := 0) (i := 0) hc rfl rfl dX5_parseKind_21 ?_
  refine R.get hc gf_X5_19_r dX5_parseKind_22 (hT.obj) rfl ?_
  refine R.caldE hc dX5_parseKind_25 (hT.let (by omega)) (by omega) (by decide) ?_
  refine R.cXr hc m_J0_indexOf_0f7a4 lk_X5_65 rfl dX5_parseKind_26 (c_indexOf1 l d X n (by omega)) rfl rfl (by omega) ⟨Nat.le_refl _, Nat.le_refl _⟩ (Nat.le_of_ble_eq_true rfl) ?_
  refine R.goto (tgt := 33) hc dX5_parseKind_29 (by decide) ?_
  refine R.istn1 hc dX5_parseKind_33 (by decide) rfl ?_
  cases hk : kdN (tp (sk tp tl pl)) with
  | zero =>
    simp only [lnI]
    refine R.iload_n (j := 1) (i := 1) hc rfl rfl dX5_parseKind_34 ?_
    refine R.if_ge (tgt := 46) hc dX5_parseKind_35 (by decide) (fun q => absurd q (by decide)) (fun _ => ?_)
    refine R.aload_n (j := 0) (i := 0) hc rfl rfl dX5_parseKind_38 ?_
    refine R.get hc gf_X5_19_r dX5_parseKind_39 (hT.obj) rfl ?_
    refine R.cSr hc m_X5_faultAt lk_X5_41 dX5_parseKind_42 (c_X5_faultAt l (d + 3) X n _) rfl rfl (by omega) ⟨Nat.le_refl _, Nat.le_refl _⟩ (Nat.le_of_ble_eq_true rfl) ?_
    have e9 : kindP tp tl pl = .inl (sk tp tl pl) := by rw [kindP, if_pos (by omega), hk]
    exact R.iret hc rfl dX5_parseKind_45 ⟨rfl, by rw [e9]; rfl, _, hs.2, fun q hq => (by rw [e9] at hq; cases hq), hT, hF⟩
  | succ k =>
    simp only [lnI]
    have hk5 : kdN (tp (sk tp tl pl)) ≤ 5 := by unfold kdN; (repeat' split) <;> omega
    refine R.iload_n (j := 1) (i := 1) hc rfl rfl dX5_parseKind_34 ?_
    refine R.ifN_ge (tgt := 46) hc dX5_parseKind_35 (by decide) (by omega) ?_
    refine R.aload_n (j := 0) (i := 0) hc rfl rfl dX5_parseKind_46 ?_
    refine R.dup hc rfl dX5_parseKind_47 ?_
    refine R.get hc gf_X5_19_r dX5_parseKind_48 (hT.obj) rfl ?_
    refine R.iconst hc ic_1 dX5_parseKind_51 ?_
    first | refine R.iaddN hc dX5_parseKind_52 ?_ | refine R.iadd hc dX5_parseKind_52 ?_
    refine R.putW hc gf_X5_19 dX5_parseKind_53 (hT.p2 _) (fun _ => rfl) (fun _ => rfl) (fun σ hX => ?_)
    obtain ⟨hT, hE⟩ := hX
    refine R.iload_n (j := 1) (i := 1) hc rfl rfl dX5_parseKind_56 ?_
    have e9 : kindP tp tl pl = .inr (k, sk tp tl pl + 1) := by rw [kindP, if_pos (by omega), hk]
    exact R.iret hc rfl dX5_parseKind_57 ⟨rfl, by rw [e9]; rfl, _, by omega, fun q hq => by rw [e9] at hq; cases hq; rfl, hT, hF.tr hE⟩
set_option maxHeartbeats 4000000 in
set_option maxRecDepth 100000 in
theorem c_X5_parseSight (l : Launch) (d : Nat) (X : Nat × (Nat → Int32)) (n : Nat) {σ : Wd} {b : Nat} {tp : Nat → Nat} {tl pl : Nat} (hT : Tp σ b tp tl pl) (hU : WT tp tl) (hpl : pl ≤ tl) : CN l yX5_parseSight cX5_parseSight 2 (some .int) ((d + 1)) X n [.ref b] σ (fun v σ' => v = some (.int (resI (sightP tp tl pl))) ∧ (∃ pl', pl' ≤ tl ∧ (∀ q, sightP tp tl pl = .inr q → pl' = q.2) ∧ Tp σ' b tp tl pl' ∧ Eqo b 2 σ σ')) := by
  refine CN.of (by decide) [some (.ref b), none] (fun _ => Nat.le_of_ble_eq_true rfl) (fun _ => rfl) (fun cx hc => ?_)
  have hU1 := hU.1
  refine R.aload_n (j := 0) (i := 0) hc rfl rfl dX5_parseSight_0 ?_
  refine R.cVu hc m_X5_skipBlanks lk_X5_38 dX5_parseSight_1 (c_X5_skipBlanks l d X n hT hU hpl) (hT.obj) rfl rfl rfl (by omega) ⟨Nat.le_refl _, Nat.le_refl _⟩ (Nat.le_of_ble_eq_true rfl) (fun σ hX => ?_)
  obtain ⟨hT, hF⟩ := hX
  have hs := sk_le (tp := tp) hpl
  refine R.aload_n (j := 0) (i := 0) hc rfl rfl dX5_parseSight_4 ?_
  refine R.cVr hc m_X5_digitHere lk_X5_70 dX5_parseSight_5 (c_X5_digitHere l d X n hT hU (by omega)) (hT.obj) rfl rfl rfl (by omega) ⟨Nat.le_refl _, Nat.le_refl _⟩ (Nat.le_of_ble_eq_true rfl) ?_
  refine R.istn1 hc dX5_parseSight_8 (by decide) rfl ?_
  have hd := dgt_le (tp := tp) (tl := tl) (i := sk tp tl pl)
  cases hk : dgt tp tl (sk tp tl pl) with
  | zero =>
    simp only [lnI]
    refine R.iload_n (j := 1) (i := 1) hc rfl rfl dX5_parseSight_9 ?_
    refine R.if_lt (tgt := 19) hc dX5_parseSight_10 (by decide) (fun _ => ?_) (fun q => absurd (by decide) q)
    refine R.aload_n (j := 0) (i := 0) hc rfl rfl dX5_parseSight_19 ?_
    refine R.get hc gf_X5_19_r dX5_parseSight_20 (hT.obj) rfl ?_
    refine R.cSr hc m_X5_faultAt lk_X5_41 dX5_parseSight_23 (c_X5_faultAt l d X n _) rfl rfl (by omega) ⟨Nat.le_refl _, Nat.le_refl _⟩ (Nat.le_of_ble_eq_true rfl) ?_
    have e9 : sightP tp tl pl = .inl (sk tp tl pl) := by rw [sightP, hk]
    exact R.iret hc rfl dX5_parseSight_26 ⟨rfl, by rw [e9]; rfl, _, hs.2, fun q hq => (by rw [e9] at hq; cases hq), hT, hF⟩
  | succ v =>
    simp only [lnI]
    have hlt := dgt_lt (tp := tp) (tl := tl) (i := sk tp tl pl) (by omega)
    refine R.iload_n (j := 1) (i := 1) hc rfl rfl dX5_parseSight_9 ?_
    refine R.ifN_lt (tgt := 19) hc dX5_parseSight_10 (by decide) (by omega) ?_
    refine R.iload_n (j := 1) (i := 1) hc rfl rfl dX5_parseSight_13 ?_
    refine R.bipush hc bp_8 dX5_parseSight_14 ?_
    refine R.icmpN_lt (tgt := 27) hc dX5_parseSight_16 (by decide) (by omega) (by omega) (fun z => ?_) (fun z => ?_)
    · refine R.aload_n (j := 0) (i := 0) hc rfl rfl dX5_parseSight_27 ?_
      refine R.dup hc rfl dX5_parseSight_28 ?_
      refine R.get hc gf_X5_19_r dX5_parseSight_29 (hT.obj) rfl ?_
      refine R.iconst hc ic_1 dX5_parseSight_32 ?_
      first | refine R.iaddN hc dX5_parseSight_33 ?_ | refine R.iadd hc dX5_parseSight_33 ?_
      refine R.putW hc gf_X5_19 dX5_parseSight_34 (hT.p2 _) (fun _ => rfl) (fun _ => rfl) (fun σ hX => ?_)
      obtain ⟨hT, hE⟩ := hX
      refine R.iload_n (j := 1) (i := 1) hc rfl rfl dX5_parseSight_37 ?_
      have e9 : sightP tp tl pl = .inr (v, sk tp tl pl + 1) := by simp only [sightP, hk]; rw [if_pos z]
      exact R.iret hc rfl dX5_parseSight_38 ⟨rfl, by rw [e9]; rfl, _, by omega, fun q hq => by rw [e9] at hq; cases hq; rfl, hT, hF.tr hE⟩
    · refine R.aload_n (j := 0) (i := 0) hc rfl rfl dX5_parseSight_19 ?_
      refine R.get hc gf_X5_19_r dX5_parseSight_20 (hT.obj) rfl ?_
      refine R.cSr hc m_X5_faultAt lk_X5_41 dX5_parseSight_23 (c_X5_faultAt l d X n _) rfl rfl (by omega) ⟨Nat.le_refl _, Nat.le_refl _⟩ (Nat.le_of_ble_eq_true rfl) ?_
      have e9 : sightP tp tl pl = .inl (sk tp tl pl) := by simp only [sightP, hk]; rw [if_neg z]
      exact R.iret hc rfl dX5_parseSight_26 ⟨rfl, by rw [e9]; rfl, _, hs.2, fun q hq => (by rw [e9] at hq; cases hq), hT, hF⟩
set_option maxHeartbeats 4000000 in
set_option maxRecDepth 100000 in
theorem c_X5_parseNumber (l : Launch) (d : Nat) (X : Nat × (Nat → Int32)) (n : Nat) {σ : Wd} {b : Nat} {tp : Nat → Nat} {tl pl : Nat} (hT : Tp σ b tp tl pl) (hU : WT tp tl) (hpl : pl ≤ tl) {lo hi : Nat} (hlo : lo ≤ 1000) (hhi : hi ≤ 1000) : CN l yX5_parseNumber cX5_parseNumber 6 (some .int) ((d + 1)) X n [.ref b, .int (nI lo), .int (nI hi)] σ (fun v σ' => v = some (.int (resI (numP tp tl lo hi pl))) ∧ (∃ pl', pl' ≤ tl ∧ (∀ q, numP tp tl lo hi pl = .inr q → pl' = q.2) ∧ Tp σ' b tp tl pl' ∧ Eqo b 2 σ σ')) := by
  refine CN.of (by decide) [some (.ref b), some (.int (nI lo)), some (.int (nI hi)), none, none, none] (fun _ => Nat.le_of_ble_eq_true rfl) (fun _ => rfl) (fun cx hc => ?_)
  have hU1 := hU.1
  refine R.aload_n (j := 0) (i := 0) hc rfl rfl dX5_parseNumber_0 ?_
  refine R.cVu hc m_X5_skipBlanks lk_X5_38 dX5_parseNumber_1 (c_X5_skipBlanks l d X n hT hU hpl) (hT.obj) rfl rfl rfl (by omega) ⟨Nat.le_refl _, Nat.le_refl _⟩ (Nat.le_of_ble_eq_true rfl) (fun σ hX => ?_)
  obtain ⟨hT, hF⟩ := hX
  have hs := sk_le (tp := tp) hpl
  refine R.aload_n (j := 0) (i := 0) hc rfl rfl dX5_parseNumber_4 ?_
  refine R.get hc gf_X5_19_r dX5_parseNumber_5 (hT.obj) rfl ?_
  refine R.istn3 hc dX5_parseNumber_8 (by decide) rfl ?_
  refine R.aload_n (j := 0) (i := 0) hc rfl rfl dX5_parseNumber_9 ?_
  refine R.cVr hc m_X5_digitHere lk_X5_70 dX5_parseNumber_10 (c_X5_digitHere l d X n hT hU (by omega)) (hT.obj) rfl rfl rfl (by omega) ⟨Nat.le_refl _, Nat.le_refl _⟩ (Nat.le_of_ble_eq_true rfl) ?_
  refine R.ist4 hc dX5_parseNumber_13 (by decide) rfl ?_
  have hd := dgt_le (tp := tp) (tl := tl) (i := sk tp tl pl)
  cases hk : dgt tp tl (sk tp tl pl) with
  | zero =>
    simp only [lnI]
    refine R.iload (i := 4) hc rfl dX5_parseNumber_15 ?_
    refine R.if_ge (tgt := 25) hc dX5_parseNumber_17 (by decide) (fun q => absurd q (by decide)) (fun _ => ?_)
    refine R.iload_n (j := 3) (i := 3) hc rfl rfl dX5_parseNumber_20 ?_
    refine R.cSr hc m_X5_faultAt lk_X5_41 dX5_parseNumber_21 (c_X5_faultAt l d X n _) rfl rfl (by omega) ⟨Nat.le_refl _, Nat.le_refl _⟩ (Nat.le_of_ble_eq_true rfl) ?_
    have e9 : numP tp tl lo hi pl = .inl (sk tp tl pl) := by rw [numP, hk]
    exact R.iret hc rfl dX5_parseNumber_24 ⟨rfl, by rw [e9]; rfl, _, hs.2, fun q hq => (by rw [e9] at hq; cases hq), hT, hF⟩
  | succ v =>
    simp only [lnI]
    have hlt := dgt_lt (tp := tp) (tl := tl) (i := sk tp tl pl) (by omega)
    refine R.iload (i := 4) hc rfl dX5_parseNumber_15 ?_
    refine R.ifN_ge (tgt := 25) hc dX5_parseNumber_17 (by decide) (by omega) ?_
    refine R.aload_n (j := 0) (i := 0) hc rfl rfl dX5_parseNumber_25 ?_
    refine R.dup hc rfl dX5_parseNumber_26 ?_
    refine R.get hc gf_X5_19_r dX5_parseNumber_27 (hT.obj) rfl ?_
    refine R.iconst hc ic_1 dX5_parseNumber_30 ?_
    first | refine R.iaddN hc dX5_parseNumber_31 ?_ | refine R.iadd hc dX5_parseNumber_31 ?_
    refine R.putW hc gf_X5_19 dX5_parseNumber_32 (hT.p2 _) (fun _ => rfl) (fun _ => rfl) (fun σ hX => ?_)
    obtain ⟨hT, hE⟩ := hX
    have hF := hF.tr hE
    refine R.aload_n (j := 0) (i := 0) hc rfl rfl dX5_parseNumber_35 ?_
    refine R.cVr hc m_X5_digitHere lk_X5_70 dX5_parseNumber_36 (c_X5_digitHere l d X n hT hU (by omega)) (hT.obj) rfl rfl rfl (by omega) ⟨Nat.le_refl _, Nat.le_refl _⟩ (Nat.le_of_ble_eq_true rfl) ?_
    refine R.ist5 hc dX5_parseNumber_39 (by decide) rfl ?_
    have hd2 := dgt_le (tp := tp) (tl := tl) (i := sk tp tl pl + 1)
    cases hk2 : dgt tp tl (sk tp tl pl + 1) with
    | zero =>
      simp only [lnI]
      refine R.iload (i := 5) hc rfl dX5_parseNumber_41 ?_
      refine R.if_lt (tgt := 66) hc dX5_parseNumber_43 (by decide) (fun _ => ?_) (fun q => absurd (by decide) q)
      refine R.iload (i := 4) hc rfl dX5_parseNumber_66 ?_
      refine R.iload_n (j := 1) (i := 1) hc rfl rfl dX5_parseNumber_68 ?_
      refine R.icmpN_lt (tgt := 78) hc dX5_parseNumber_69 (by decide) (by omega) (by omega) (fun z => ?_) (fun z => ?_)
      · refine R.iload_n (j := 3) (i := 3) hc rfl rfl dX5_parseNumber_78 ?_
        refine R.cSr hc m_X5_faultAt lk_X5_41 dX5_parseNumber_79 (c_X5_faultAt l d X n _) rfl rfl (by omega) ⟨Nat.le_refl _, Nat.le_refl _⟩ (Nat.le_of_ble_eq_true rfl) ?_
        refine R.goto (tgt := 87) hc dX5_parseNumber_82 (by decide) ?_
        have e9 : numP tp tl lo hi pl = .inl (sk tp tl pl) := by simp only [numP, hk, hk2, chkP]; rw [if_pos (by omega)]
        exact R.iret hc rfl dX5_parseNumber_87 ⟨rfl, by rw [e9]; rfl, _, by omega, fun q hq => (by rw [e9] at hq; cases hq), hT, hF⟩
      refine R.iload (i := 4) hc rfl dX5_parseNumber_72 ?_
      refine R.iload_n (j := 2) (i := 2) hc rfl rfl dX5_parseNumber_74 ?_
      refine R.icmpN_le (tgt := 85) hc dX5_parseNumber_75 (by decide) (by omega) (by omega) (fun y => ?_) (fun y => ?_)
      · refine R.iload (i := 4) hc rfl dX5_parseNumber_85 ?_
        have e9 : numP tp tl lo hi pl = .inr (v, sk tp tl pl + 1) := by simp only [numP, hk, hk2, chkP]; rw [if_neg (by omega)]
        exact R.iret hc rfl dX5_parseNumber_87 ⟨rfl, by rw [e9]; rfl, _, by omega, fun q hq => by rw [e9] at hq; cases hq; rfl, hT, hF⟩
      · refine R.iload_n (j := 3) (i := 3) hc rfl rfl dX5_parseNumber_78 ?_
        refine R.cSr hc m_X5_faultAt lk_X5_41 dX5_parseNumber_79 (c_X5_faultAt l d X n _) rfl rfl (by omega) ⟨Nat.le_refl _, Nat.le_refl _⟩ (Nat.le_of_ble_eq_true rfl) ?_
        refine R.goto (tgt := 87) hc dX5_parseNumber_82 (by decide) ?_
        have e9 : numP tp tl lo hi pl = .inl (sk tp tl pl) := by simp only [numP, hk, hk2, chkP]; rw [if_pos (by omega)]
        exact R.iret hc rfl dX5_parseNumber_87 ⟨rfl, by rw [e9]; rfl, _, by omega, fun q hq => (by rw [e9] at hq; cases hq), hT, hF⟩
    | succ w =>
      simp only [lnI]
      have hlt2 := dgt_lt (tp := tp) (tl := tl) (i := sk tp tl pl + 1) (by omega)
      refine R.iload (i := 5) hc rfl dX5_parseNumber_41 ?_
      refine R.ifN_lt (tgt := 66) hc dX5_parseNumber_43 (by decide) (by omega) ?_
      refine R.bipush hc bp_10 dX5_parseNumber_46 ?_
      refine R.iload (i := 4) hc rfl dX5_parseNumber_48 ?_
      first | refine R.imulN hc dX5_parseNumber_50 ?_ | refine R.imul hc dX5_parseNumber_50 ?_
      refine R.iload (i := 5) hc rfl dX5_parseNumber_51 ?_
      first | refine R.iaddN hc dX5_parseNumber_53 ?_ | refine R.iadd hc dX5_parseNumber_53 ?_
      refine R.ist4 hc dX5_parseNumber_54 (by decide) rfl ?_
      refine R.aload_n (j := 0) (i := 0) hc rfl rfl dX5_parseNumber_56 ?_
      refine R.dup hc rfl dX5_parseNumber_57 ?_
      refine R.get hc gf_X5_19_r dX5_parseNumber_58 (hT.obj) rfl ?_
      refine R.iconst hc ic_1 dX5_parseNumber_61 ?_
      first | refine R.iaddN hc dX5_parseNumber_62 ?_ | refine R.iadd hc dX5_parseNumber_62 ?_
      refine R.putW hc gf_X5_19 dX5_parseNumber_63 (hT.p2 _) (fun _ => rfl) (fun _ => rfl) (fun σ hX => ?_)
      obtain ⟨hT, hE⟩ := hX
      have hF := hF.tr hE
      refine R.iload (i := 4) hc rfl dX5_parseNumber_66 ?_
      refine R.iload_n (j := 1) (i := 1) hc rfl rfl dX5_parseNumber_68 ?_
      refine R.icmpN_lt (tgt := 78) hc dX5_parseNumber_69 (by decide) (by omega) (by omega) (fun z => ?_) (fun z => ?_)
      · refine R.iload_n (j := 3) (i := 3) hc rfl rfl dX5_parseNumber_78 ?_
        refine R.cSr hc m_X5_faultAt lk_X5_41 dX5_parseNumber_79 (c_X5_faultAt l d X n _) rfl rfl (by omega) ⟨Nat.le_refl _, Nat.le_refl _⟩ (Nat.le_of_ble_eq_true rfl) ?_
        refine R.goto (tgt := 87) hc dX5_parseNumber_82 (by decide) ?_
        have e9 : numP tp tl lo hi pl = .inl (sk tp tl pl) := by simp only [numP, hk, hk2, chkP]; rw [if_pos (by omega)]
        exact R.iret hc rfl dX5_parseNumber_87 ⟨rfl, by rw [e9]; rfl, _, by omega, fun q hq => (by rw [e9] at hq; cases hq), hT, hF⟩
      refine R.iload (i := 4) hc rfl dX5_parseNumber_72 ?_
      refine R.iload_n (j := 2) (i := 2) hc rfl rfl dX5_parseNumber_74 ?_
      refine R.icmpN_le (tgt := 85) hc dX5_parseNumber_75 (by decide) (by omega) (by omega) (fun y => ?_) (fun y => ?_)
      · refine R.iload (i := 4) hc rfl dX5_parseNumber_85 ?_
        have e9 : numP tp tl lo hi pl = .inr (10 * v + w, sk tp tl pl + 2) := by simp only [numP, hk, hk2, chkP]; rw [if_neg (by omega)]
        exact R.iret hc rfl dX5_parseNumber_87 ⟨rfl, by rw [e9]; rfl, _, by omega, fun q hq => by rw [e9] at hq; cases hq; rfl, hT, hF⟩
      · refine R.iload_n (j := 3) (i := 3) hc rfl rfl dX5_parseNumber_78 ?_
        refine R.cSr hc m_X5_faultAt lk_X5_41 dX5_parseNumber_79 (c_X5_faultAt l d X n _) rfl rfl (by omega) ⟨Nat.le_refl _, Nat.le_refl _⟩ (Nat.le_of_ble_eq_true rfl) ?_
        refine R.goto (tgt := 87) hc dX5_parseNumber_82 (by decide) ?_
        have e9 : numP tp tl lo hi pl = .inl (sk tp tl pl) := by simp only [numP, hk, hk2, chkP]; rw [if_pos (by omega)]
        exact R.iret hc rfl dX5_parseNumber_87 ⟨rfl, by rw [e9]; rfl, _, by omega, fun q hq => (by rw [e9] at hq; cases hq), hT, hF⟩
/-- one letter more -/
def tpA (tp : Nat → Nat) (tl x : Nat) : Nat → Nat := fun i => if i = tl then x else tp i
set_option maxHeartbeats 4000000 in
set_option maxRecDepth 100000 in
theorem c_X5_add (l : Launch) (d : Nat) (X : Nat × (Nat → Int32)) (n : Nat) {σ : Wd} {b : Nat} {tp : Nat → Nat} {tl pl : Nat} (hT : Tp σ b tp tl pl) (h9 : tl < 90) {x : Nat} (hx : x < 127) : CN l yX5_add cX5_add 2 (some .int) (d) X n [.ref b, .int (nI x)] σ (fun v σ' => v = some (.int (nI (tl + 1))) ∧ (Tp σ' b (tpA tp tl x) (tl + 1) pl ∧ Eqo b 2 σ σ')) := by
  refine CN.of (by decide) [some (.ref b), some (.int (nI x))] (fun _ => Nat.le_of_ble_eq_true rfl) (fun _ => rfl) (fun cx hc => ?_)
  obtain ⟨h0, f, h1, h2⟩ := hT
  refine R.aload_n (j := 0) (i := 0) hc rfl rfl dX5_add_0 ?_
  refine R.get hc gf_X5_15_r dX5_add_1 (h0) rfl ?_
  refine R.bipush hc bp_90 dX5_add_4 ?_
  refine R.icmpN_lt (tgt := 12) hc dX5_add_6 (by decide) (by omega) (by omega) (fun _ => ?_) (fun q => absurd h9 q)
  refine R.aload_n (j := 0) (i := 0) hc rfl rfl dX5_add_12 ?_
  refine R.get hc gf_X5_11_r dX5_add_13 (h0) rfl ?_
  refine R.aload_n (j := 0) (i := 0) hc rfl rfl dX5_add_16 ?_
  refine R.get hc gf_X5_15_r dX5_add_17 (h0) rfl ?_
  refine R.iload_n (j := 1) (i := 1) hc rfl rfl dX5_add_20 ?_
  refine R.castG hc dX5_add_21 h1 (by omega) (by decide) (fun σ hX hE => ?_)
  have h0 := (hE _ (by omega)).trans h0
  have h1 := hX
  have hF : Eqo b 2 _ σ := hE.wid (by omega)
  refine R.aload_n (j := 0) (i := 0) hc rfl rfl dX5_add_22 ?_
  refine R.dup hc rfl dX5_add_23 ?_
  refine R.get hc gf_X5_15_r dX5_add_24 (h0) rfl ?_
  refine R.iconst hc ic_1 dX5_add_27 ?_
  first | refine R.iaddN hc dX5_add_28 ?_ | refine R.iadd hc dX5_add_28 ?_
  refine R.putG hc gf_X5_15 dX5_add_29 (h0) (Nat.le_of_ble_eq_true rfl) (fun _ => rfl) (fun _ => rfl) (fun σ hX hE => ?_)
  have h1 := (hE _ (by omega)).trans h1
  have h0 := hX
  have hF := hF.tr (hE.wid (by omega))
  refine R.aload_n (j := 0) (i := 0) hc rfl rfl dX5_add_32 ?_
  refine R.get hc gf_X5_15_r dX5_add_33 (h0) rfl ?_
  have e9 : vp_nar .char (nI x) = nI x := by
    have h := (pk_charN (q := x) (by omega)).1
    unfold vp_nar
    rw [h]
  rw [e9] at h1
  refine R.iret hc rfl dX5_add_36 ⟨rfl, rfl, ⟨h0, _, h1, fun i hi => ?_⟩, hF⟩
  by_cases e : i = tl
  · subst e; rw [pk_us]; simp [tpA]
  · rw [pk_un e, h2 i (by omega)]; simp [tpA, e]
