def lnI (c : Nat) : Int32 := match c with
  | 0 => -1
  | c + 1 => nI c
theorem lnI_eq {c l : Nat} (hc : c ≤ 1000) (hl : l ≤ 1000) : lnI c = nI l ↔ c = l + 1 := by
  cases c with
  | zero =>
    simp only [lnI]
    constructor
    · intro h
      have := congrArg Int32.toInt h
      rw [nI_toInt (by omega)] at this
      have h4 : (-1 : Int32).toInt = -1 := by decide
      omega
    · intro h; omega
  | succ c =>
    simp only [lnI]
    rw [nI_eq (by omega) (by omega)]
    omega
theorem lnI_m1 {c : Nat} (hc : c ≤ 1000) : lnI c = -1 ↔ c = 0 := by
  cases c with
  | zero => simp [lnI]
  | succ c =>
    simp only [lnI]
    constructor
    · intro h
      have := congrArg Int32.toInt h
      rw [nI_toInt (by omega)] at this
      have h4 : (-1 : Int32).toInt = -1 := by decide
      omega
    · intro h; omega
def un {α : Type} (f : Nat → α) (k : Nat) (x : α) : Nat → α := fun j => if j = k then x else f j
theorem un_s {α : Type} {f : Nat → α} {k : Nat} {x : α} : un f k x k = x := by simp [un]
theorem un_n {α : Type} {f : Nat → α} {k j : Nat} {x : α} (h : j ≠ k) : un f k x j = f j := by simp [un, h]
/-- sheets: the lane (0 none, or its number and 1), how many items, the items -/
def Sh (σ : Wd) (b : Nat) (ln sz : Nat → Nat) (it : Nat → Nat → Int64) : Prop :=
  σ b = some (.inr (3, [.ref (b + 1), .ref (b + 2), .ref (b + 3)])) ∧ (∃ f, σ (b + 1) = some (.inl (0, 4, .inl f)) ∧ ∀ s, s < 4 → f s = lnI (ln s)) ∧ (∃ f, σ (b + 2) = some (.inl (0, 4, .inl f)) ∧ ∀ s, s < 4 → f s = nI (sz s)) ∧ ∃ g, σ (b + 3) = some (.inl (1, 96, .inr (.inl g))) ∧ ∀ s, s < 4 → ∀ i, i < sz s → g (s * 24 + i) = it s i
def WS (ln sz : Nat → Nat) : Prop := ∀ s, s < 4 → ln s ≤ 4 ∧ sz s ≤ 24
theorem Sh.eqo {σ σ' : Wd} {b b' m : Nat} {ln sz : Nat → Nat} {it : Nat → Nat → Int64} (h : Sh σ b ln sz it) (e : Eqo b' m σ σ') (hb : b + 4 ≤ b' ∨ b' + m ≤ b) : Sh σ' b ln sz it := by
  obtain ⟨h1, h2, h3, h4⟩ := h
  refine ⟨(e _ (by omega)).trans h1, ?_, ?_, ?_⟩
  · rw [e _ (by omega)]; exact h2
  · rw [e _ (by omega)]; exact h3
  · rw [e _ (by omega)]; exact h4
def holdB (z : Nat) (i n : Int32) : Bool := decide (0 ≤ i.toInt ∧ 0 ≤ n.toInt ∧ i.toInt + n.toInt ≤ z)
theorem lt0_toInt {x : Int32} : x < 0 ↔ x.toInt < 0 := by
  rw [Int32.lt_iff_toInt_lt]
  simp
def refS (ln sz : Nat → Nat) (s l : Nat) (i n : Int32) : Int32 := if ln s = 0 then -11 else if ln s = l + 1 then (if holdB (sz s) i n then 0 else -13) else -12
def cutL (l : Nat) (v : Int64) : Int64 := match l with
  | 0 => v.toInt32.toInt8.toInt32.toInt64
  | 1 => v.toInt32.toInt16.toInt32.toInt64
  | 2 => v.toInt32.toInt64
  | _ => v
set_option maxHeartbeats 4000000 in
set_option maxRecDepth 100000 in
theorem c_X3_isSheet (l : Launch) (d : Nat) (X : Nat × (Nat → Int32)) (n : Nat) {σ : Wd} (x : Int32) : CN l yX3_isSheet cX3_isSheet 1 (some .boolean) (d) X n [.int x] σ (fun v σ' => v = some (.int (b2 (inI x 4))) ∧ σ' = σ) := by
  refine CN.of (by decide) [some (.int x)] (fun _ => Nat.le_of_ble_eq_true rfl) (fun _ => rfl) (fun cx hc => ?_)
  refine R.iload_n (j := 0) (i := 0) hc rfl rfl dX3_isSheet_0 ?_
  refine R.if_lt (tgt := 13) hc dX3_isSheet_1 (by decide) (fun q => ?_) (fun q => ?_)
  · refine R.iconst hc ic_0 dX3_isSheet_13 ?_
    have e9 : nI 0 = b2 (inI x 4) := by
      simp [inI, q, b2]; rfl
    exact R.bret hc rfl dX3_isSheet_14 e9 ⟨rfl, by rw [e9], rfl⟩
  · refine R.iload_n (j := 0) (i := 0) hc rfl rfl dX3_isSheet_4 ?_
    refine R.iconst hc ic_4 dX3_isSheet_5 ?_
    refine R.icmp_ge (tgt := 13) hc dX3_isSheet_6 (by decide) (fun q2 => ?_) (fun q2 => ?_)
    · refine R.iconst hc ic_0 dX3_isSheet_13 ?_
      have e9 : nI 0 = b2 (inI x 4) := by
        simp [inI, Int32.not_lt.mpr q2, b2]; rfl
      exact R.bret hc rfl dX3_isSheet_14 e9 ⟨rfl, by rw [e9], rfl⟩
    · refine R.iconst hc ic_1 dX3_isSheet_9 ?_
      refine R.goto (tgt := 14) hc dX3_isSheet_10 (by decide) ?_
      have e9 : nI 1 = b2 (inI x 4) := by
        simp [inI, q, Int32.not_le.mp q2, b2]; rfl
      exact R.bret hc rfl dX3_isSheet_14 e9 ⟨rfl, by rw [e9], rfl⟩
set_option maxHeartbeats 4000000 in
set_option maxRecDepth 100000 in
theorem c_X3_isLane (l : Launch) (d : Nat) (X : Nat × (Nat → Int32)) (n : Nat) {σ : Wd} (x : Int32) : CN l yX3_isLane cX3_isLane 1 (some .boolean) (d) X n [.int x] σ (fun v σ' => v = some (.int (b2 (inI x 4))) ∧ σ' = σ) := by
  refine CN.of (by decide) [some (.int x)] (fun _ => Nat.le_of_ble_eq_true rfl) (fun _ => rfl) (fun cx hc => ?_)
  refine R.iload_n (j := 0) (i := 0) hc rfl rfl dX3_isLane_0 ?_
  refine R.if_lt (tgt := 13) hc dX3_isLane_1 (by decide) (fun q => ?_) (fun q => ?_)
  · refine R.iconst hc ic_0 dX3_isLane_13 ?_
    have e9 : nI 0 = b2 (inI x 4) := by
      simp [inI, q, b2]; rfl
    exact R.bret hc rfl dX3_isLane_14 e9 ⟨rfl, by rw [e9], rfl⟩
  · refine R.iload_n (j := 0) (i := 0) hc rfl rfl dX3_isLane_4 ?_
    refine R.iconst hc ic_4 dX3_isLane_5 ?_
    refine R.icmp_ge (tgt := 13) hc dX3_isLane_6 (by decide) (fun q2 => ?_) (fun q2 => ?_)
    · refine R.iconst hc ic_0 dX3_isLane_13 ?_
      have e9 : nI 0 = b2 (inI x 4) := by
        simp [inI, Int32.not_lt.mpr q2, b2]; rfl
      exact R.bret hc rfl dX3_isLane_14 e9 ⟨rfl, by rw [e9], rfl⟩
    · refine R.iconst hc ic_1 dX3_isLane_9 ?_
      refine R.goto (tgt := 14) hc dX3_isLane_10 (by decide) ?_
      have e9 : nI 1 = b2 (inI x 4) := by
        simp [inI, q, Int32.not_le.mp q2, b2]; rfl
      exact R.bret hc rfl dX3_isLane_14 e9 ⟨rfl, by rw [e9], rfl⟩
set_option maxHeartbeats 4000000 in
set_option maxRecDepth 100000 in
theorem c_X3_isHeld (l : Launch) (d : Nat) (X : Nat × (Nat → Int32)) (n : Nat) {σ : Wd} {b : Nat} {ln sz : Nat → Nat} {it : Nat → Nat → Int64} (hT : Sh σ b ln sz it) (hV : WS ln sz) {s : Nat} (hs : s < 4) : CN l yX3_isHeld cX3_isHeld 2 (some .boolean) (d) X n [.ref b, .int (nI s)] σ (fun v σ' => v = some (.int (b2 (ln s != 0))) ∧ σ' = σ) := by
  refine CN.of (by decide) [some (.ref b), some (.int (nI s))] (fun _ => Nat.le_of_ble_eq_true rfl) (fun _ => rfl) (fun cx hc => ?_)
  obtain ⟨h0, ⟨f1, h1, k1⟩, ⟨f2, h2, k2⟩, g3, h3, k3⟩ := hT
  have hv := hV s hs
  refine R.aload_n (j := 0) (i := 0) hc rfl rfl dX3_isHeld_0 ?_
  refine R.get hc gf_X3_11_r dX3_isHeld_1 (h0) rfl ?_
  refine R.iload_n (j := 1) (i := 1) hc rfl rfl dX3_isHeld_4 ?_
  refine R.iald hc h1 (by omega) (by decide) dX3_isHeld_5 ?_
  rw [k1 s hs]
  refine R.iconst hc ic_m1 dX3_isHeld_6 ?_
  refine R.icmp_eq (tgt := 14) hc dX3_isHeld_7 (by decide) (fun q => ?_) (fun q => ?_)
  · refine R.iconst hc ic_0 dX3_isHeld_14 ?_
    have e9 : nI 0 = b2 (ln s != 0) := by
      simp [(lnI_m1 (by omega)).mp q, b2]; rfl
    exact R.bret hc rfl dX3_isHeld_15 e9 ⟨rfl, by rw [e9], rfl⟩
  · refine R.iconst hc ic_1 dX3_isHeld_10 ?_
    refine R.goto (tgt := 15) hc dX3_isHeld_11 (by decide) ?_
    have e9 : nI 1 = b2 (ln s != 0) := by
      have h9 : ¬ ln s = 0 := fun z => q ((lnI_m1 (by omega)).mpr z)
      simp [h9, b2]; rfl
    exact R.bret hc rfl dX3_isHeld_15 e9 ⟨rfl, by rw [e9], rfl⟩
set_option maxHeartbeats 4000000 in
set_option maxRecDepth 100000 in
theorem c_X3_holds (l : Launch) (d : Nat) (X : Nat × (Nat → Int32)) (n : Nat) {σ : Wd} {b : Nat} {ln sz : Nat → Nat} {it : Nat → Nat → Int64} (hT : Sh σ b ln sz it) (hV : WS ln sz) {s : Nat} (hs : s < 4) (i k : Int32) : CN l yX3_holds cX3_holds 4 (some .boolean) (d) X n [.ref b, .int (nI s), .int i, .int k] σ (fun v σ' => v = some (.int (b2 (holdB (sz s) i k))) ∧ σ' = σ) := by
  refine CN.of (by decide) [some (.ref b), some (.int (nI s)), some (.int i), some (.int k)] (fun _ => Nat.le_of_ble_eq_true rfl) (fun _ => rfl) (fun cx hc => ?_)
  obtain ⟨h0, ⟨f1, h1, k1⟩, ⟨f2, h2, k2⟩, g3, h3, k3⟩ := hT
  have hv := hV s hs
  refine R.iload_n (j := 2) (i := 2) hc rfl rfl dX3_holds_0 ?_
  refine R.if_lt (tgt := 34) hc dX3_holds_1 (by decide) (fun q => ?_) (fun q => ?_)
  · refine R.iconst hc ic_0 dX3_holds_34 ?_
    have e9 : nI 0 = b2 (holdB (sz s) i k) := by
      have := lt0_toInt.mp q
      rw [holdB, decide_eq_false (by omega)]; rfl
    exact R.bret hc rfl dX3_holds_35 e9 ⟨rfl, by rw [e9], rfl⟩
  refine R.iload_n (j := 3) (i := 3) hc rfl rfl dX3_holds_4 ?_
  refine R.if_lt (tgt := 34) hc dX3_holds_5 (by decide) (fun q2 => ?_) (fun q2 => ?_)
  · refine R.iconst hc ic_0 dX3_holds_34 ?_
    have e9 : nI 0 = b2 (holdB (sz s) i k) := by
      have := lt0_toInt.mp q2
      rw [holdB, decide_eq_false (by omega)]; rfl
    exact R.bret hc rfl dX3_holds_35 e9 ⟨rfl, by rw [e9], rfl⟩
  obtain ⟨i, hi, rfl⟩ := nI_of q
  obtain ⟨k, hk, rfl⟩ := nI_of q2
  have e1 := nI_toInt hi
  have e2 := nI_toInt hk
  refine R.iload_n (j := 3) (i := 3) hc rfl rfl dX3_holds_8 ?_
  refine R.aload_n (j := 0) (i := 0) hc rfl rfl dX3_holds_9 ?_
  refine R.get hc gf_X3_15_r dX3_holds_10 (h0) rfl ?_
  refine R.iload_n (j := 1) (i := 1) hc rfl rfl dX3_holds_13 ?_
  refine R.iald hc h2 (by omega) (by decide) dX3_holds_14 ?_
  rw [k2 s hs]
  refine R.icmpN_gt (tgt := 34) hc dX3_holds_15 (by decide) (by omega) (by omega) (fun q3 => ?_) (fun q3 => ?_)
  · refine R.iconst hc ic_0 dX3_holds_34 ?_
    have e9 : nI 0 = b2 (holdB (sz s) (nI i) (nI k)) := by
      rw [holdB, decide_eq_false (by omega)]; rfl
    exact R.bret hc rfl dX3_holds_35 e9 ⟨rfl, by rw [e9], rfl⟩
  refine R.iload_n (j := 2) (i := 2) hc rfl rfl dX3_holds_18 ?_
  refine R.aload_n (j := 0) (i := 0) hc rfl rfl dX3_holds_19 ?_
  refine R.get hc gf_X3_15_r dX3_holds_20 (h0) rfl ?_
  refine R.iload_n (j := 1) (i := 1) hc rfl rfl dX3_holds_23 ?_
  refine R.iald hc h2 (by omega) (by decide) dX3_holds_24 ?_
  rw [k2 s hs]
  refine R.iload_n (j := 3) (i := 3) hc rfl rfl dX3_holds_25 ?_
  first | refine R.isubN hc (by omega) dX3_holds_26 ?_ | refine R.isub hc dX3_holds_26 ?_
  refine R.icmpN_gt (tgt := 34) hc dX3_holds_27 (by decide) (by omega) (by omega) (fun q4 => ?_) (fun q4 => ?_)
  · refine R.iconst hc ic_0 dX3_holds_34 ?_
    have e9 : nI 0 = b2 (holdB (sz s) (nI i) (nI k)) := by
      rw [holdB, decide_eq_false (by omega)]; rfl
    exact R.bret hc rfl dX3_holds_35 e9 ⟨rfl, by rw [e9], rfl⟩
  refine R.iconst hc ic_1 dX3_holds_30 ?_
  refine R.goto (tgt := 35) hc dX3_holds_31 (by decide) ?_
  have e9 : nI 1 = b2 (holdB (sz s) (nI i) (nI k)) := by
    rw [holdB, decide_eq_true (by omega)]; rfl
  exact R.bret hc rfl dX3_holds_35 e9 ⟨rfl, by rw [e9], rfl⟩
set_option maxHeartbeats 4000000 in
set_option maxRecDepth 100000 in
theorem c_X3_refusal (l : Launch) (d : Nat) (X : Nat × (Nat → Int32)) (n : Nat) {σ : Wd} {b : Nat} {ln sz : Nat → Nat} {it : Nat → Nat → Int64} (hT : Sh σ b ln sz it) (hV : WS ln sz) {s l9 : Nat} (hs : s < 4) (hl : l9 < 4) (i k : Int32) : CN l yX3_refusal cX3_refusal 5 (some .int) ((d + 1)) X n [.ref b, .int (nI s), .int (nI l9), .int i, .int k] σ (fun v σ' => v = some (.int (refS ln sz s l9 i k)) ∧ σ' = σ) := by
  refine CN.of (by decide) [some (.ref b), some (.int (nI s)), some (.int (nI l9)), some (.int i), some (.int k)] (fun _ => Nat.le_of_ble_eq_true rfl) (fun _ => rfl) (fun cx hc => ?_)
  have hT0 := hT
  obtain ⟨h0, ⟨f1, h1, k1⟩, ⟨f2, h2, k2⟩, g3, h3, k3⟩ := hT0
  have hv := hV s hs
  refine R.aload_n (j := 0) (i := 0) hc rfl rfl dX3_refusal_0 ?_
  refine R.iload_n (j := 1) (i := 1) hc rfl rfl dX3_refusal_1 ?_
  refine R.cVr hc m_X3_isHeld lk_X3_22 dX3_refusal_2 (c_X3_isHeld l d X n hT hV hs) (h0) rfl rfl rfl (by omega) ⟨Nat.le_refl _, Nat.le_refl _⟩ (Nat.le_of_ble_eq_true rfl) ?_
  refine R.ifB_ne (tgt := 11) hc dX3_refusal_5 (by decide) (fun q => ?_) (fun q => ?_)
  rotate_left
  · refine R.bipush hc bp_m11 dX3_refusal_8 ?_
    have e9 : (-11) = refS ln sz s l9 i k := by
      simp at q; simp [refS, q]
    exact R.iret hc rfl dX3_refusal_10 ⟨rfl, by rw [e9], rfl⟩
  have q : ¬ ln s = 0 := by simpa using q
  refine R.aload_n (j := 0) (i := 0) hc rfl rfl dX3_refusal_11 ?_
  refine R.get hc gf_X3_11_r dX3_refusal_12 (h0) rfl ?_
  refine R.iload_n (j := 1) (i := 1) hc rfl rfl dX3_refusal_15 ?_
  refine R.iald hc h1 (by omega) (by decide) dX3_refusal_16 ?_
  rw [k1 s hs]
  refine R.iload_n (j := 2) (i := 2) hc rfl rfl dX3_refusal_17 ?_
  refine R.icmp_eq (tgt := 24) hc dX3_refusal_18 (by decide) (fun q2 => ?_) (fun q2 => ?_)
  rotate_left
  · refine R.bipush hc bp_m12 dX3_refusal_21 ?_
    have e9 : (-12) = refS ln sz s l9 i k := by
      rw [refS, if_neg q, if_neg (fun z => q2 ((lnI_eq (by omega) (by omega)).mpr z))]
    exact R.iret hc rfl dX3_refusal_23 ⟨rfl, by rw [e9], rfl⟩
  have q2 := (lnI_eq (by omega) (by omega)).mp q2
  refine R.aload_n (j := 0) (i := 0) hc rfl rfl dX3_refusal_24 ?_
  refine R.iload_n (j := 1) (i := 1) hc rfl rfl dX3_refusal_25 ?_
  refine R.iload_n (j := 3) (i := 3) hc rfl rfl dX3_refusal_26 ?_
  refine R.iload (i := 4) hc rfl dX3_refusal_27 ?_
  refine R.cVr hc m_X3_holds lk_X3_26 dX3_refusal_29 (c_X3_holds l d X n hT hV hs _ _) (h0) rfl rfl rfl (by omega) ⟨Nat.le_refl _, Nat.le_refl _⟩ (Nat.le_of_ble_eq_true rfl) ?_
  refine R.ifB_eq (tgt := 39) hc dX3_refusal_32 (by decide) (fun q3 => ?_) (fun q3 => ?_)
  · refine R.bipush hc bp_m13 dX3_refusal_39 ?_
    have e9 : (-13) = refS ln sz s l9 i k := by
      rw [refS, if_neg q, if_pos q2, q3]; rfl
    exact R.iret hc rfl dX3_refusal_41 ⟨rfl, by rw [e9], rfl⟩
  · refine R.iconst hc ic_0 dX3_refusal_35 ?_
    refine R.goto (tgt := 41) hc dX3_refusal_36 (by decide) ?_
    have e9 : nI 0 = refS ln sz s l9 i k := by
      rw [refS, if_neg q, if_pos q2, q3]; rfl
    exact R.iret hc rfl dX3_refusal_41 ⟨rfl, by rw [e9], rfl⟩
set_option maxHeartbeats 4000000 in
set_option maxRecDepth 100000 in
theorem c_X3_renew (l : Launch) (d : Nat) (X : Nat × (Nat → Int32)) (n : Nat) {σ : Wd} {b : Nat} {ln sz : Nat → Nat} {it : Nat → Nat → Int64} (hT : Sh σ b ln sz it) (hV : WS ln sz) {s l9 k : Nat} (hs : s < 4) (hl : l9 < 4) (hk : k ≤ 24) : CN l yX3_renew cX3_renew 5 none (d) X n [.ref b, .int (nI s), .int (nI l9), .int (nI k)] σ (fun v σ' => v = none ∧ (Sh σ' b (un ln s (l9 + 1)) (un sz s k) (fun s' i => if s' = s then 0 else it s' i) ∧ Eqo b 4 σ σ')) := by
  refine CN.of (by decide) [some (.ref b), some (.int (nI s)), some (.int (nI l9)), some (.int (nI k)), none] (fun _ => Nat.le_of_ble_eq_true rfl) (fun _ => rfl) (fun cx hc => ?_)
  obtain ⟨h0, ⟨f1, h1, k1⟩, ⟨f2, h2, k2⟩, g3, h3, k3⟩ := hT
  refine R.aload_n (j := 0) (i := 0) hc rfl rfl dX3_renew_0 ?_
  refine R.get hc gf_X3_11_r dX3_renew_1 (h0) rfl ?_
  refine R.iload_n (j := 1) (i := 1) hc rfl rfl dX3_renew_4 ?_
  refine R.iload_n (j := 2) (i := 2) hc rfl rfl dX3_renew_5 ?_
  refine R.iastG hc dX3_renew_6 h1 (by omega) (by decide) (fun σ hX hE => ?_)
  have h0 := (hE _ (by omega)).trans h0
  have h1 := hX
  have h2 := (hE _ (by omega)).trans h2
  have h3 := (hE _ (by omega)).trans h3
  have hF : Eqo b 4 _ σ := hE.wid (by omega)
  refine R.aload_n (j := 0) (i := 0) hc rfl rfl dX3_renew_7 ?_
  refine R.get hc gf_X3_15_r dX3_renew_8 (h0) rfl ?_
  refine R.iload_n (j := 1) (i := 1) hc rfl rfl dX3_renew_11 ?_
  refine R.iload_n (j := 3) (i := 3) hc rfl rfl dX3_renew_12 ?_
  refine R.iastG hc dX3_renew_13 h2 (by omega) (by decide) (fun σ hX hE => ?_)
  have h0 := (hE _ (by omega)).trans h0
  have h2 := hX
  have h1 := (hE _ (by omega)).trans h1
  have h3 := (hE _ (by omega)).trans h3
  have hF := hF.tr (hE.wid (by omega))
  refine R.iconst hc ic_0 dX3_renew_14 ?_
  refine R.ist4 hc dX3_renew_15 (by decide) rfl ?_
  refine rl_down (P := fun j => ∀ (σ1 : Wd) (g : Nat → Int64), σ1 b = some (.inr (3, [.ref (b + 1), .ref (b + 2), .ref (b + 3)])) → σ1 (b + 3) = some (.inl (1, 96, .inr (.inl g))) → Eqo (b + 3) 1 σ σ1 → (∀ i, i < j → g (s * 24 + i) = 0) → (∀ m, (m < s * 24 ∨ s * 24 + 24 ≤ m) → g m = g3 m) → R cx 0 0 n σ1 17 [some (.ref b), some (.int (nI s)), some (.int (nI l9)), some (.int (nI k)), some (.int (nI j))] []) k (fun σ g h0 h3 hE hz hg => ?_) (fun j hj ih σ g h0 h3 hE2 hz hg => ?_) 0 (Nat.zero_le _) σ g3 h0 h3 Eqo.rf (fun i hi => absurd hi (by omega)) (fun _ _ => rfl)
  · refine R.iload (i := 4) hc rfl dX3_renew_17 ?_
    refine R.iload_n (j := 3) (i := 3) hc rfl rfl dX3_renew_19 ?_
    refine R.icmpN_ge (tgt := 42) hc dX3_renew_20 (by decide) (by omega) (by omega) (fun _ => ?_) (fun q => absurd (Nat.le_refl _) q)
    refine R.vret hc rfl dX3_renew_42 ⟨rfl, rfl, ⟨h0, ⟨_, (hE _ (by omega)).trans h1, fun s' hs' => ?_⟩, ⟨_, (hE _ (by omega)).trans h2, fun s' hs' => ?_⟩, g, h3, fun s' hs' i hi => ?_⟩, hF.tr (hE.wid (by omega))⟩
    · by_cases e : s' = s
      · subst e; rw [pk_us, un_s]; rfl
      · rw [pk_un e, un_n e]; exact k1 s' hs'
    · by_cases e : s' = s
      · subst e; rw [pk_us, un_s]
      · rw [pk_un e, un_n e]; exact k2 s' hs'
    · by_cases e : s' = s
      · subst e
        rw [un_s] at hi
        simp only [if_true]
        exact hz i hi
      · rw [un_n e] at hi
        have hv := hV s' hs'
        simp only [if_neg e]
        rw [hg _ (by omega)]
        exact k3 s' hs' i hi
  · refine R.iload (i := 4) hc rfl dX3_renew_17 ?_
    refine R.iload_n (j := 3) (i := 3) hc rfl rfl dX3_renew_19 ?_
    refine R.icmpN_ge (tgt := 42) hc dX3_renew_20 (by decide) (by omega) (by omega) (fun q => absurd q (by omega)) (fun _ => ?_)
    refine R.aload_n (j := 0) (i := 0) hc rfl rfl dX3_renew_23 ?_
    refine R.get hc gf_X3_18_r dX3_renew_24 (h0) rfl ?_
    refine R.iload_n (j := 1) (i := 1) hc rfl rfl dX3_renew_27 ?_
    refine R.bipush hc bp_24 dX3_renew_28 ?_
    first | refine R.imulN hc dX3_renew_30 ?_ | refine R.imul hc dX3_renew_30 ?_
    refine R.iload (i := 4) hc rfl dX3_renew_31 ?_
    first | refine R.iaddN hc dX3_renew_33 ?_ | refine R.iadd hc dX3_renew_33 ?_
    refine R.lconst (j := 0) (v := lN 0) hc rfl dX3_renew_34 ?_
    refine R.lastG hc dX3_renew_35 h3 (by omega) (by decide) (fun σ hX hE => ?_)
    refine R.iinc4 hc dX3_renew_36 (iiN1 _) (by decide) rfl ?_
    refine R.goto (tgt := 17) hc dX3_renew_39 (by decide) ?_
    refine ih σ _ ((hE _ (by omega)).trans h0) hX (hE2.tr hE) (fun i hi => ?_) (fun m hm => ?_)
    · by_cases e : i = j
      · subst e; rw [pk_uLs]; rfl
      · rw [pk_uLn (by omega)]; exact hz i (by omega)
    · rw [pk_uLn (by omega)]; exact hg m hm
set_option maxHeartbeats 4000000 in
set_option maxRecDepth 100000 in
theorem c_X3_clear (l : Launch) (d : Nat) (X : Nat × (Nat → Int32)) (n : Nat) {σ : Wd} {b : Nat} {ln sz : Nat → Nat} {it : Nat → Nat → Int64} (hT : Sh σ b ln sz it) (hV : WS ln sz) {s : Nat} (hs : s < 4) : CN l yX3_clear cX3_clear 2 (some .int) (d) X n [.ref b, .int (nI s)] σ (fun v σ' => v = some (.int (nI (sz s))) ∧ (Sh σ' b (un ln s 0) sz it ∧ Eqo b 4 σ σ')) := by
  refine CN.of (by decide) [some (.ref b), some (.int (nI s))] (fun _ => Nat.le_of_ble_eq_true rfl) (fun _ => rfl) (fun cx hc => ?_)
  obtain ⟨h0, ⟨f1, h1, k1⟩, ⟨f2, h2, k2⟩, g3, h3, k3⟩ := hT
  refine R.aload_n (j := 0) (i := 0) hc rfl rfl dX3_clear_0 ?_
  refine R.get hc gf_X3_11_r dX3_clear_1 (h0) rfl ?_
  refine R.iload_n (j := 1) (i := 1) hc rfl rfl dX3_clear_4 ?_
  refine R.iconst hc ic_m1 dX3_clear_5 ?_
  refine R.iastG hc dX3_clear_6 h1 (by omega) (by decide) (fun σ hX hE => ?_)
  have h0 := (hE _ (by omega)).trans h0
  have h1 := hX
  have h2 := (hE _ (by omega)).trans h2
  have h3 := (hE _ (by omega)).trans h3
  refine R.aload_n (j := 0) (i := 0) hc rfl rfl dX3_clear_7 ?_
  refine R.get hc gf_X3_15_r dX3_clear_8 (h0) rfl ?_
  refine R.iload_n (j := 1) (i := 1) hc rfl rfl dX3_clear_11 ?_
  refine R.iald hc h2 (by omega) (by decide) dX3_clear_12 ?_
  rw [k2 s hs]
  refine R.iret hc rfl dX3_clear_13 ⟨rfl, rfl, ⟨h0, ⟨_, h1, fun s' hs' => ?_⟩, ⟨f2, h2, k2⟩, g3, h3, k3⟩, hE.wid (by omega)⟩
  by_cases e : s' = s
  · subst e; rw [pk_us, un_s]; rfl
  · rw [pk_un e, un_n e]; exact k1 s' hs'
set_option maxHeartbeats 4000000 in
set_option maxRecDepth 100000 in
theorem c_X3_valueAt (l : Launch) (d : Nat) (X : Nat × (Nat → Int32)) (n : Nat) {σ : Wd} {b : Nat} {ln sz : Nat → Nat} {it : Nat → Nat → Int64} (hT : Sh σ b ln sz it) (hV : WS ln sz) {s i : Nat} (hs : s < 4) (hi : i < sz s) : CN l yX3_valueAt cX3_valueAt 3 (some .long) (d) X n [.ref b, .int (nI s), .int (nI i)] σ (fun v σ' => v = some (.long (it s i)) ∧ σ' = σ) := by
  refine CN.of (by decide) [some (.ref b), some (.int (nI s)), some (.int (nI i))] (fun _ => Nat.le_of_ble_eq_true rfl) (fun _ => rfl) (fun cx hc => ?_)
  obtain ⟨h0, ⟨f1, h1, k1⟩, ⟨f2, h2, k2⟩, g3, h3, k3⟩ := hT
  have hv := hV s hs
  refine R.aload_n (j := 0) (i := 0) hc rfl rfl dX3_valueAt_0 ?_
  refine R.get hc gf_X3_18_r dX3_valueAt_1 (h0) rfl ?_
  refine R.iload_n (j := 1) (i := 1) hc rfl rfl dX3_valueAt_4 ?_
  refine R.bipush hc bp_24 dX3_valueAt_5 ?_
  first | refine R.imulN hc dX3_valueAt_7 ?_ | refine R.imul hc dX3_valueAt_7 ?_
  refine R.iload_n (j := 2) (i := 2) hc rfl rfl dX3_valueAt_8 ?_
  first | refine R.iaddN hc dX3_valueAt_9 ?_ | refine R.iadd hc dX3_valueAt_9 ?_
  refine R.lald hc h3 (by omega) (by decide) dX3_valueAt_10 ?_
  rw [k3 s hs i hi]
  exact R.lret hc rfl dX3_valueAt_11 ⟨rfl, rfl, rfl⟩
set_option maxHeartbeats 4000000 in
set_option maxRecDepth 100000 in
theorem c_X3_lowestBits (l : Launch) (d : Nat) (X : Nat × (Nat → Int32)) (n : Nat) {σ : Wd} {l9 : Nat} (hl : l9 < 4) (v : Int64) : CN l yX3_lowestBits cX3_lowestBits 3 (some .long) (d) X n [.int (nI l9), .long v] σ (fun r σ' => r = some (.long (cutL l9 v)) ∧ σ' = σ) := by
  refine CN.of (by decide) [some (.int (nI l9)), some (.long v), none] (fun _ => Nat.le_of_ble_eq_true rfl) (fun _ => rfl) (fun cx hc => ?_)
  refine R.iload_n (j := 0) (i := 0) hc rfl rfl dX3_lowestBits_0 ?_
  rcases (by omega : l9 = 0 ∨ l9 = 1 ∨ l9 = 2 ∨ l9 = 3) with rfl | rfl | rfl | rfl
  · refine R.tabIn (x := nI 0) (off := 27) (tgt := 28) hc dX3_lowestBits_1 (by decide) (by decide) (by decide) (by decide) ?_
    refine R.lload_n (j := 1) (i := 1) hc rfl rfl dX3_lowestBits_28 ?_
    refine R.l2i hc dX3_lowestBits_29 ?_
    refine R.i2b hc dX3_lowestBits_30 ?_
    refine R.i2l hc dX3_lowestBits_31 ?_
    exact R.lret hc rfl dX3_lowestBits_32 ⟨rfl, rfl, rfl⟩
  · refine R.tabIn (x := nI 1) (off := 32) (tgt := 33) hc dX3_lowestBits_1 (by decide) (by decide) (by decide) (by decide) ?_
    refine R.lload_n (j := 1) (i := 1) hc rfl rfl dX3_lowestBits_33 ?_
    refine R.l2i hc dX3_lowestBits_34 ?_
    refine R.i2s hc dX3_lowestBits_35 ?_
    refine R.i2l hc dX3_lowestBits_36 ?_
    exact R.lret hc rfl dX3_lowestBits_37 ⟨rfl, rfl, rfl⟩
  · refine R.tabIn (x := nI 2) (off := 37) (tgt := 38) hc dX3_lowestBits_1 (by decide) (by decide) (by decide) (by decide) ?_
    refine R.lload_n (j := 1) (i := 1) hc rfl rfl dX3_lowestBits_38 ?_
    refine R.l2i hc dX3_lowestBits_39 ?_
    refine R.i2l hc dX3_lowestBits_40 ?_
    exact R.lret hc rfl dX3_lowestBits_41 ⟨rfl, rfl, rfl⟩
  · refine R.tabOut (x := nI 3) (tgt := 42) hc dX3_lowestBits_1 (by decide) (by decide) ?_
    refine R.lload_n (j := 1) (i := 1) hc rfl rfl dX3_lowestBits_42 ?_
    exact R.lret hc rfl dX3_lowestBits_43 ⟨rfl, rfl, rfl⟩
/-- one item of one sheet -/
def itS (it : Nat → Nat → Int64) (s i : Nat) (x : Int64) : Nat → Nat → Int64 := fun s' i' => if s' = s ∧ i' = i then x else it s' i'
set_option maxHeartbeats 4000000 in
set_option maxRecDepth 100000 in
theorem c_X3_put (l : Launch) (d : Nat) (X : Nat × (Nat → Int32)) (n : Nat) {σ : Wd} {b : Nat} {ln sz : Nat → Nat} {it : Nat → Nat → Int64} (hT : Sh σ b ln sz it) (hV : WS ln sz) {s i l9 : Nat} (hs : s < 4) (hi : i < sz s) (hln : ln s = l9 + 1) (hl : l9 < 4) (v : Int64) : CN l yX3_put cX3_put 5 none ((d + 1)) X n [.ref b, .int (nI s), .int (nI i), .long v] σ (fun r σ' => r = none ∧ (Sh σ' b ln sz (itS it s i (cutL l9 v)) ∧ Eqo b 4 σ σ')) := by
  refine CN.of (by decide) [some (.ref b), some (.int (nI s)), some (.int (nI i)), some (.long v), none] (fun _ => Nat.le_of_ble_eq_true rfl) (fun _ => rfl) (fun cx hc => ?_)
  obtain ⟨h0, ⟨f1, h1, k1⟩, ⟨f2, h2, k2⟩, g3, h3, k3⟩ := hT
  have hv := hV s hs
  refine R.aload_n (j := 0) (i := 0) hc rfl rfl dX3_put_0 ?_
  refine R.get hc gf_X3_18_r dX3_put_1 (h0) rfl ?_
  refine R.iload_n (j := 1) (i := 1) hc rfl rfl dX3_put_4 ?_
  refine R.bipush hc bp_24 dX3_put_5 ?_
  first | refine R.imulN hc dX3_put_7 ?_ | refine R.imul hc dX3_put_7 ?_
  refine R.iload_n (j := 2) (i := 2) hc rfl rfl dX3_put_8 ?_
  first | refine R.iaddN hc dX3_put_9 ?_ | refine R.iadd hc dX3_put_9 ?_
  refine R.aload_n (j := 0) (i := 0) hc rfl rfl dX3_put_10 ?_
  refine R.get hc gf_X3_11_r dX3_put_11 (h0) rfl ?_
  refine R.iload_n (j := 1) (i := 1) hc rfl rfl dX3_put_14 ?_
  refine R.iald hc h1 (by omega) (by decide) dX3_put_15 ?_
  rw [k1 s hs, hln]
  simp only [lnI]
  refine R.lload_n (j := 3) (i := 3) hc rfl rfl dX3_put_16 ?_
  refine R.cSm hc m_X3_lowestBits lk_X3_30 dX3_put_17 (c_X3_lowestBits l d X n hl _) rfl rfl (by omega) ⟨Nat.le_refl _, Nat.le_refl _⟩ (Nat.le_of_ble_eq_true rfl) ?_
  refine R.lastG hc dX3_put_20 h3 (by omega) (by decide) (fun σ hX hE => ?_)
  refine R.vret hc rfl dX3_put_21 ⟨rfl, rfl, ⟨(hE _ (by omega)).trans h0, ⟨f1, (hE _ (by omega)).trans h1, k1⟩, ⟨f2, (hE _ (by omega)).trans h2, k2⟩, _, hX, fun s' hs' i' hi' => ?_⟩, hE.wid (by omega)⟩
  have hv' := hV s' hs'
  by_cases e : s' = s ∧ i' = i
  · obtain ⟨rfl, rfl⟩ := e
    rw [pk_uLs]; simp [itS]
  · rw [pk_uLn (by omega)]
    simp only [itS, if_neg e]
    exact k3 s' hs' i' hi'
def itM (it : Nat → Nat → Int64) (s i t j k : Nat) : Nat → Nat → Int64 := fun s' i' => if s' = t ∧ j ≤ i' ∧ i' < j + k then it s (i + (i' - j)) else it s' i'
set_option maxHeartbeats 4000000 in
set_option maxRecDepth 100000 in
theorem c_X3_move (l : Launch) (d : Nat) (X : Nat × (Nat → Int32)) (n : Nat) {σ : Wd} {b : Nat} {ln sz : Nat → Nat} {it : Nat → Nat → Int64} (hT : Sh σ b ln sz it) (hV : WS ln sz) {s i t j k : Nat} (hs : s < 4) (ht : t < 4) (hi : i + k ≤ sz s) (hj : j + k ≤ sz t) : CN l yX3_move cX3_move 6 none ((d + 1)) X n [.ref b, .int (nI s), .int (nI i), .int (nI t), .int (nI j), .int (nI k)] σ (fun r σ' => r = none ∧ (Sh σ' b ln sz (itM it s i t j k) ∧ Eqo b 4 σ σ')) := by
  refine CN.of (by decide) [some (.ref b), some (.int (nI s)), some (.int (nI i)), some (.int (nI t)), some (.int (nI j)), some (.int (nI k))] (fun _ => Nat.le_of_ble_eq_true rfl) (fun _ => rfl) (fun cx hc => ?_)
  obtain ⟨h0, ⟨f1, h1, k1⟩, ⟨f2, h2, k2⟩, g3, h3, k3⟩ := hT
  have hv := hV s hs
  have hv2 := hV t ht
  refine R.aload_n (j := 0) (i := 0) hc rfl rfl dX3_move_0 ?_
  refine R.get hc gf_X3_18_r dX3_move_1 (h0) rfl ?_
  refine R.iload_n (j := 1) (i := 1) hc rfl rfl dX3_move_4 ?_
  refine R.bipush hc bp_24 dX3_move_5 ?_
  first | refine R.imulN hc dX3_move_7 ?_ | refine R.imul hc dX3_move_7 ?_
  refine R.iload_n (j := 2) (i := 2) hc rfl rfl dX3_move_8 ?_
  first | refine R.iaddN hc dX3_move_9 ?_ | refine R.iadd hc dX3_move_9 ?_
  refine R.aload_n (j := 0) (i := 0) hc rfl rfl dX3_move_10 ?_
  refine R.get hc gf_X3_18_r dX3_move_11 (h0) rfl ?_
  refine R.iload_n (j := 3) (i := 3) hc rfl rfl dX3_move_14 ?_
  refine R.bipush hc bp_24 dX3_move_15 ?_
  first | refine R.imulN hc dX3_move_17 ?_ | refine R.imul hc dX3_move_17 ?_
  refine R.iload (i := 4) hc rfl dX3_move_18 ?_
  first | refine R.iaddN hc dX3_move_20 ?_ | refine R.iadd hc dX3_move_20 ?_
  refine R.iload (i := 5) hc rfl dX3_move_21 ?_
  refine R.copylG hc lk_X3_34 dX3_move_23 (h3) (h3) (by omega) (by omega) (by decide) (by decide) (by omega) (Nat.le_of_ble_eq_true rfl) (fun σ hX hE => ?_)
  refine R.vret hc rfl dX3_move_26 ⟨rfl, rfl, ⟨(hE _ (by omega)).trans h0, ⟨f1, (hE _ (by omega)).trans h1, k1⟩, ⟨f2, (hE _ (by omega)).trans h2, k2⟩, _, hX, fun s' hs' i' hi' => ?_⟩, hE.wid (by omega)⟩
  have hv' := hV s' hs'
  by_cases e : s' = t ∧ j ≤ i' ∧ i' < j + k
  · obtain ⟨rfl, e1, e2⟩ := e
    rw [pk_cpy_in (by omega) (by omega), show s * 24 + i + (s' * 24 + i' - (s' * 24 + j)) = s * 24 + (i + (i' - j)) by omega, k3 s hs _ (by omega)]
    simp [itM, e1, e2]
  · rw [pk_cpy_out (by omega)]
    simp only [itM, if_neg e]
    exact k3 s' hs' i' hi'
