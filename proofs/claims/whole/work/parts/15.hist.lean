/-- what is kept of a street: hour, draw, rows -/
abbrev SN : Type := Nat × Nat × SA
def slotOK (f : Nat → Int32) (o : Nat) (s : SN) (np nq : Nat) : Prop := (∀ p, p < np → f (o + p) = nI (s.2.2 2 p)) ∧ (∀ q, q < nq → f (o + 7 + q) = cI (s.2.2 6 q)) ∧ (∀ q, q < nq → f (o + 13 + q) = nI (s.2.2 4 q)) ∧ f (o + 19) = nI s.1 ∧ f (o + 20) = nI s.2.1
/-- the history at b: the newest first -/
def Hi (σ : Wd) (b : Nat) (h : List SN) (np nq : Nat) : Prop := ∃ (nx : Nat) (f : Nat → Int32), nx < 8 ∧ h.length ≤ 8 ∧ σ b = some (.inr (0, [.ref (b + 1), .int (nI nx), .int (nI h.length)])) ∧ σ (b + 1) = some (.inl (0, 168, .inl f)) ∧ ∀ (i : Nat) (s : SN), h[i]? = some s → slotOK f ((nx + 7 - i) % 8 * 21) s np nq
theorem Hi.eqo {σ σ' : Wd} {b b' m : Nat} {h : List SN} {np nq : Nat} (hh : Hi σ b h np nq) (e : Eqo b' m σ σ') (hb : b + 2 ≤ b' ∨ b' + m ≤ b) : Hi σ' b h np nq := by
  obtain ⟨nx, f, h1, h2, h3, h4, h5⟩ := hh
  exact ⟨nx, f, h1, h2, (e _ (by omega)).trans h3, (e _ (by omega)).trans h4, h5⟩
def remem (h : List SN) (s : SN) : List SN := (s :: h).take 8
theorem nar_b (x : Int32) : narrow .int (.int x) = .int x := rfl
/-- a slot that nobody wrote -/
theorem slotOK.kept {f g : Nat → Int32} {o : Nat} {s : SN} {np nq : Nat} (h : slotOK f o s np nq) (hp : np ≤ 7) (hq : nq ≤ 6) (e : ∀ j, o ≤ j → j < o + 21 → g j = f j) : slotOK g o s np nq := by
  obtain ⟨h1, h2, h3, h4, h5⟩ := h
  exact ⟨fun p hp => by rw [e _ (by omega) (by omega)]; exact h1 p hp, fun p hp => by rw [e _ (by omega) (by omega)]; exact h2 p hp, fun p hp => by rw [e _ (by omega) (by omega)]; exact h3 p hp, by rw [e _ (by omega) (by omega)]; exact h4, by rw [e _ (by omega) (by omega)]; exact h5⟩
set_option maxHeartbeats 4000000 in
set_option maxRecDepth 100000 in
theorem c_X0_remember (l : Launch) (d : Nat) (X : Nat × (Nat → Int32)) (n : Nat) {σ : Wd} {b b' : Nat} {a : SA} {np nq hr dr : Nat} {h : List SN} (hH : Hi σ b h np nq) (hS : St σ b' a np nq hr dr) (hn7 : np ≤ 7) (hn6 : nq ≤ 6) (hb : b + 2 ≤ b' ∨ b' + 8 ≤ b) : CN l yX0_remember cX0_remember 3 none ((d + 1)) X n [.ref b, .ref b'] σ (fun v σ' => v = none ∧ (Hi σ' b (remem h (hr, dr, a)) np nq ∧ Eqo b 2 σ σ')) := by
  refine CN.of (by decide) [some (.ref b), some (.ref b'), none] (fun _ => Nat.le_of_ble_eq_true rfl) (fun _ => rfl) (fun cx hc => ?_)
  obtain ⟨nx, f, g1, g2, h0, h1, h5⟩ := hH
  obtain ⟨f2, k1, l1⟩ := hS.2.1 2 (by omega)
  obtain ⟨f6, k2, l2⟩ := hS.2.2.2
  obtain ⟨f4, k3, l3⟩ := hS.2.2.1 1 (by omega)
  have hF : Eqo b 2 σ σ := Eqo.rf
  refine R.aload_n (j := 0) (i := 0) hc rfl rfl dX0_remember_0 ?_
  refine R.get hc gf_X0_15_r dX0_remember_1 (h0) rfl ?_
  refine R.bipush hc bp_21 dX0_remember_4 ?_
  first | refine R.imulN hc dX0_remember_6 ?_ | refine R.imul hc dX0_remember_6 ?_
  refine R.istn2 hc dX0_remember_7 (by decide) rfl ?_
  refine R.aload_n (j := 1) (i := 1) hc rfl rfl dX0_remember_8 ?_
  refine R.get hc gf_X0_22 dX0_remember_9 (hS.obj) rfl ?_
  refine R.iconst hc ic_0 dX0_remember_12 ?_
  refine R.aload_n (j := 0) (i := 0) hc rfl rfl dX0_remember_13 ?_
  refine R.get hc gf_X0_11_r dX0_remember_14 (h0) rfl ?_
  refine R.iload_n (j := 2) (i := 2) hc rfl rfl dX0_remember_17 ?_
  refine R.bipush hc bp_7 dX0_remember_18 ?_
  refine R.copyiG hc lk_X0_25 dX0_remember_20 (k1) (h1) (by omega) (by omega) (by decide) (by decide) (by omega) (Nat.le_of_ble_eq_true rfl) (fun σ hX hE => ?_)
  have h0 := (hE b (by omega)).trans h0
  have h1 := hX
  have k1 := (hE _ (by omega)).trans k1
  have k2 := (hE _ (by omega)).trans k2
  have k3 := (hE _ (by omega)).trans k3
  have hS := SX.eqo hS hE (by omega)
  have hF := hF.tr (hE.wid (by omega))
  refine R.aload_n (j := 1) (i := 1) hc rfl rfl dX0_remember_23 ?_
  refine R.get hc gf_X0_31 dX0_remember_24 (hS.obj) rfl ?_
  refine R.iconst hc ic_0 dX0_remember_27 ?_
  refine R.aload_n (j := 0) (i := 0) hc rfl rfl dX0_remember_28 ?_
  refine R.get hc gf_X0_11_r dX0_remember_29 (h0) rfl ?_
  refine R.iload_n (j := 2) (i := 2) hc rfl rfl dX0_remember_32 ?_
  refine R.bipush hc bp_7 dX0_remember_33 ?_
  first | refine R.iaddN hc dX0_remember_35 ?_ | refine R.iadd hc dX0_remember_35 ?_
  refine R.bipush hc bp_6 dX0_remember_36 ?_
  refine R.copyiG hc lk_X0_25 dX0_remember_38 (k2) (h1) (by omega) (by omega) (by decide) (by decide) (by omega) (Nat.le_of_ble_eq_true rfl) (fun σ hX hE => ?_)
  have h0 := (hE b (by omega)).trans h0
  have h1 := hX
  have k1 := (hE _ (by omega)).trans k1
  have k2 := (hE _ (by omega)).trans k2
  have k3 := (hE _ (by omega)).trans k3
  have hS := SX.eqo hS hE (by omega)
  have hF := hF.tr (hE.wid (by omega))
  refine R.aload_n (j := 1) (i := 1) hc rfl rfl dX0_remember_41 ?_
  refine R.get hc gf_X0_34 dX0_remember_42 (hS.obj) rfl ?_
  refine R.iconst hc ic_0 dX0_remember_45 ?_
  refine R.aload_n (j := 0) (i := 0) hc rfl rfl dX0_remember_46 ?_
  refine R.get hc gf_X0_11_r dX0_remember_47 (h0) rfl ?_
  refine R.iload_n (j := 2) (i := 2) hc rfl rfl dX0_remember_50 ?_
  refine R.bipush hc bp_13 dX0_remember_51 ?_
  first | refine R.iaddN hc dX0_remember_53 ?_ | refine R.iadd hc dX0_remember_53 ?_
  refine R.bipush hc bp_6 dX0_remember_54 ?_
  refine R.copyiG hc lk_X0_25 dX0_remember_56 (k3) (h1) (by omega) (by omega) (by decide) (by decide) (by omega) (Nat.le_of_ble_eq_true rfl) (fun σ hX hE => ?_)
  have h0 := (hE b (by omega)).trans h0
  have h1 := hX
  have k1 := (hE _ (by omega)).trans k1
  have k2 := (hE _ (by omega)).trans k2
  have k3 := (hE _ (by omega)).trans k3
  have hS := SX.eqo hS hE (by omega)
  have hF := hF.tr (hE.wid (by omega))
  refine R.aload_n (j := 0) (i := 0) hc rfl rfl dX0_remember_59 ?_
  refine R.get hc gf_X0_11_r dX0_remember_60 (h0) rfl ?_
  refine R.iload_n (j := 2) (i := 2) hc rfl rfl dX0_remember_63 ?_
  refine R.bipush hc bp_19 dX0_remember_64 ?_
  first | refine R.iaddN hc dX0_remember_66 ?_ | refine R.iadd hc dX0_remember_66 ?_
  refine R.aload_n (j := 1) (i := 1) hc rfl rfl dX0_remember_67 ?_
  refine R.get hc gf_X0_37_r dX0_remember_68 (hS.obj) rfl ?_
  refine R.iastG hc dX0_remember_71 h1 (by omega) (by decide) (fun σ hX hE => ?_)
  have h0 := (hE b (by omega)).trans h0
  have h1 := hX
  have k1 := (hE _ (by omega)).trans k1
  have k2 := (hE _ (by omega)).trans k2
  have k3 := (hE _ (by omega)).trans k3
  have hS := SX.eqo hS hE (by omega)
  have hF := hF.tr (hE.wid (by omega))
  refine R.aload_n (j := 0) (i := 0) hc rfl rfl dX0_remember_72 ?_
  refine R.get hc gf_X0_11_r dX0_remember_73 (h0) rfl ?_
  refine R.iload_n (j := 2) (i := 2) hc rfl rfl dX0_remember_76 ?_
  refine R.bipush hc bp_20 dX0_remember_77 ?_
  first | refine R.iaddN hc dX0_remember_79 ?_ | refine R.iadd hc dX0_remember_79 ?_
  refine R.aload_n (j := 1) (i := 1) hc rfl rfl dX0_remember_80 ?_
  refine R.get hc gf_X0_40_r dX0_remember_81 (hS.obj) rfl ?_
  refine R.iastG hc dX0_remember_84 h1 (by omega) (by decide) (fun σ hX hE => ?_)
  have h0 := (hE b (by omega)).trans h0
  have h1 := hX
  have k1 := (hE _ (by omega)).trans k1
  have k2 := (hE _ (by omega)).trans k2
  have k3 := (hE _ (by omega)).trans k3
  have hS := SX.eqo hS hE (by omega)
  have hF := hF.tr (hE.wid (by omega))
  refine R.aload_n (j := 0) (i := 0) hc rfl rfl dX0_remember_85 ?_
  refine R.aload_n (j := 0) (i := 0) hc rfl rfl dX0_remember_86 ?_
  refine R.get hc gf_X0_15_r dX0_remember_87 (h0) rfl ?_
  refine R.iconst hc ic_1 dX0_remember_90 ?_
  first | refine R.iaddN hc dX0_remember_91 ?_ | refine R.iadd hc dX0_remember_91 ?_
  refine R.bipush hc bp_8 dX0_remember_92 ?_
  first | refine R.iremN hc (by omega) (by omega) (by omega) dX0_remember_94 ?_ | refine R.irem hc (by decide) dX0_remember_94 ?_
  refine R.putG hc gf_X0_15 dX0_remember_95 (h0) (Nat.le_of_ble_eq_true rfl) (fun _ => rfl) (fun _ => rfl) (fun σ hX hE => ?_)
  have h1 := (hE _ (by omega)).trans h1
  have h0 := hX
  have hF := hF.tr (hE.wid (by omega))
  refine R.aload_n (j := 0) (i := 0) hc rfl rfl dX0_remember_98 ?_
  refine R.bipush hc bp_8 dX0_remember_99 ?_
  refine R.aload_n (j := 0) (i := 0) hc rfl rfl dX0_remember_101 ?_
  refine R.get hc gf_X0_19_r dX0_remember_102 (h0) rfl ?_
  refine R.iconst hc ic_1 dX0_remember_105 ?_
  first | refine R.iaddN hc dX0_remember_106 ?_ | refine R.iadd hc dX0_remember_106 ?_
  refine R.mmin hc lk_X0_43 (by omega) (Nat.le_of_ble_eq_true rfl) ⟨Nat.le_refl _, Nat.le_refl _⟩ dX0_remember_107 ?_
  rw [mns (by omega) (by omega)]
  refine R.putG hc gf_X0_19 dX0_remember_110 (h0) (Nat.le_of_ble_eq_true rfl) (fun _ => rfl) (fun _ => rfl) (fun σ hX hE => ?_)
  have h1 := (hE _ (by omega)).trans h1
  have h0 := hX
  have hF := hF.tr (hE.wid (by omega))
  have hlen : (remem h (hr, dr, a)).length = min 8 (h.length + 1) := by simp only [remem, List.length_take, List.length_cons]
  refine R.vret hc rfl dX0_remember_113 ⟨rfl, rfl, ⟨(nx + 1) % 8, _, by omega, by omega, by rw [hlen]; exact h0, h1, fun i s hi => ?_⟩, hF⟩
  have hi8 : i < 8 := by
    have := (List.getElem?_eq_some_iff.mp hi).1
    omega
  cases i with
  | zero =>
    simp [remem] at hi
    subst hi
    have e : ((nx + 1) % 8 + 7 - 0) % 8 * 21 = nx * 21 := by omega
    rw [e]
    refine ⟨fun p hp => ?_, fun q hq => ?_, fun q hq => ?_, ?_, ?_⟩
    · rw [pk_un (by omega), pk_un (by omega), pk_cpy_out (by omega), pk_cpy_out (by omega), pk_cpy_in (by omega) (by omega), show 0 + (nx * 21 + p - nx * 21) = p by omega]
      exact l1 p hp
    · rw [pk_un (by omega), pk_un (by omega), pk_cpy_out (by omega), pk_cpy_in (by omega) (by omega), show 0 + (nx * 21 + 7 + q - (nx * 21 + 7)) = q by omega]
      exact l2 q hq
    · rw [pk_un (by omega), pk_un (by omega), pk_cpy_in (by omega) (by omega), show 0 + (nx * 21 + 13 + q - (nx * 21 + 13)) = q by omega]
      exact l3 q hq
    · rw [pk_un (by omega), pk_us]
    · rw [pk_us]
  | succ i =>
    have hi' : h[i]? = some s := by
      simp only [remem, List.getElem?_take, if_pos hi8, List.getElem?_cons_succ] at hi
      exact hi
    have e : ((nx + 1) % 8 + 7 - (i + 1)) % 8 = (nx + 7 - i) % 8 := by omega
    have ne : ¬ (nx + 7 - i) % 8 = nx := by omega
    rw [e]
    refine (h5 i s hi').kept hn7 hn6 (fun j j1 j2 => ?_)
    have hz : j < nx * 21 ∨ nx * 21 + 21 ≤ j := by omega
    rw [pk_un (by omega), pk_un (by omega), pk_cpy_out (by omega), pk_cpy_out (by omega), pk_cpy_out (by omega)]
set_option maxHeartbeats 4000000 in
set_option maxRecDepth 100000 in
theorem c_X0_forget (l : Launch) (d : Nat) (X : Nat × (Nat → Int32)) (n : Nat) {σ : Wd} {b : Nat} {np nq : Nat} {h : List SN} (hH : Hi σ b h np nq) (np' nq' : Nat) : CN l yX0_forget cX0_forget 1 none (d) X n [.ref b] σ (fun v σ' => v = none ∧ (Hi σ' b [] np' nq' ∧ Eqo b 2 σ σ')) := by
  refine CN.of (by decide) [some (.ref b)] (fun _ => Nat.le_of_ble_eq_true rfl) (fun _ => rfl) (fun cx hc => ?_)
  obtain ⟨nx, f, g1, g2, h0, h1, h5⟩ := hH
  refine R.aload_n (j := 0) (i := 0) hc rfl rfl dX0_forget_0 ?_
  refine R.iconst hc ic_0 dX0_forget_1 ?_
  refine R.putG hc gf_X0_19 dX0_forget_2 (h0) (Nat.le_of_ble_eq_true rfl) (fun _ => rfl) (fun _ => rfl) (fun σ hX hE => ?_)
  exact R.vret hc rfl dX0_forget_5 ⟨rfl, rfl, ⟨nx, f, g1, by simp, hX, (hE _ (by omega)).trans h1, fun i s hi => by simp at hi⟩, hE.wid (by omega)⟩
set_option maxHeartbeats 4000000 in
set_option maxRecDepth 100000 in
theorem c_X0_copyFrom (l : Launch) (d : Nat) (X : Nat × (Nat → Int32)) (n : Nat) {σ : Wd} {b b' : Nat} {np nq np' nq' : Nat} {h h' : List SN} (hH : Hi σ b h np nq) (hO : Hi σ b' h' np' nq') (hn7 : np' ≤ 7) (hn6 : nq' ≤ 6) (hb : b + 2 ≤ b' ∨ b' + 2 ≤ b) : CN l yX0_copyFrom cX0_copyFrom 2 none ((d + 1)) X n [.ref b, .ref b'] σ (fun v σ' => v = none ∧ (Hi σ' b h' np' nq' ∧ Eqo b 2 σ σ')) := by
  refine CN.of (by decide) [some (.ref b), some (.ref b')] (fun _ => Nat.le_of_ble_eq_true rfl) (fun _ => rfl) (fun cx hc => ?_)
  obtain ⟨nx, f, g1, g2, h0, h1, h5⟩ := hH
  obtain ⟨nx', f', g1', g2', k0, k1, h5'⟩ := hO
  refine R.aload_n (j := 1) (i := 1) hc rfl rfl dX0_copyFrom_0 ?_
  refine R.get hc gf_X0_11_r dX0_copyFrom_1 (k0) rfl ?_
  refine R.iconst hc ic_0 dX0_copyFrom_4 ?_
  refine R.aload_n (j := 0) (i := 0) hc rfl rfl dX0_copyFrom_5 ?_
  refine R.get hc gf_X0_11_r dX0_copyFrom_6 (h0) rfl ?_
  refine R.iconst hc ic_0 dX0_copyFrom_9 ?_
  refine R.sipush hc sp_168 dX0_copyFrom_10 ?_
  refine R.copyiG hc lk_X0_25 dX0_copyFrom_13 (k1) (h1) (by omega) (by omega) (by decide) (by decide) (by omega) (Nat.le_of_ble_eq_true rfl) (fun σ hX hE => ?_)
  have h0 := (hE _ (by omega)).trans h0
  have h1 := hX
  have k0 := (hE _ (by omega)).trans k0
  have hF : Eqo b 2 _ σ := hE.wid (by omega)
  refine R.aload_n (j := 0) (i := 0) hc rfl rfl dX0_copyFrom_16 ?_
  refine R.aload_n (j := 1) (i := 1) hc rfl rfl dX0_copyFrom_17 ?_
  refine R.get hc gf_X0_15_r dX0_copyFrom_18 (k0) rfl ?_
  refine R.putG hc gf_X0_15 dX0_copyFrom_21 (h0) (Nat.le_of_ble_eq_true rfl) (fun _ => rfl) (fun _ => rfl) (fun σ hX hE => ?_)
  have h1 := (hE _ (by omega)).trans h1
  have h0 := hX
  have k0 := (hE _ (by omega)).trans k0
  have hF := hF.tr (hE.wid (by omega))
  refine R.aload_n (j := 0) (i := 0) hc rfl rfl dX0_copyFrom_24 ?_
  refine R.aload_n (j := 1) (i := 1) hc rfl rfl dX0_copyFrom_25 ?_
  refine R.get hc gf_X0_19_r dX0_copyFrom_26 (k0) rfl ?_
  refine R.putG hc gf_X0_19 dX0_copyFrom_29 (h0) (Nat.le_of_ble_eq_true rfl) (fun _ => rfl) (fun _ => rfl) (fun σ hX hE => ?_)
  have h1 := (hE _ (by omega)).trans h1
  have h0 := hX
  have k0 := (hE _ (by omega)).trans k0
  have hF := hF.tr (hE.wid (by omega))
  refine R.vret hc rfl dX0_copyFrom_32 ⟨rfl, rfl, ⟨nx', _, g1', g2', h0, h1, fun i s hi => (h5' i s hi).kept hn7 hn6 (fun j j1 j2 => ?_)⟩, hF⟩
  rw [pk_cpy_in (by omega) (by omega), show 0 + (j - 0) = j by omega]
/-- what undoing brings back -/
def backA (a s : SA) : SA := fun k j => if k = 2 ∨ k = 4 ∨ k = 6 then s k j else a k j
def setR (a : SA) (k : Nat) (r : Nat → Nat) : SA := fun k' j => if k' = k then r j else a k' j
theorem setR_s {a : SA} {k j : Nat} {r : Nat → Nat} : setR a k r k j = r j := by simp [setR]
theorem setR_n {a : SA} {k k' j : Nat} {r : Nat → Nat} (h : k' ≠ k) : setR a k r k' j = a k' j := by simp [setR, h]
theorem backA_eq (a s : SA) : setR (setR (setR a 2 (s 2)) 6 (s 6)) 4 (s 4) = backA a s := by
  funext k j
  unfold setR backA
  by_cases h4 : k = 4
  · subst h4; simp
  · by_cases h6 : k = 6
    · subst h6; simp
    · by_cases h2 : k = 2
      · subst h2; simp
      · simp [h2, h4, h6]
section LD
variable {σ : Wd} {b : Nat} {a : SA} {lp lq np nq hr dr : Nat}
theorem SX.l2 (h : SX σ b a lp lq np nq hr dr) (hl : lp ≤ 7) {f : Nat → Int32} {o : Nat} {r : Nat → Nat} (hf : ∀ p, p < lp → f (o + p) = nI (r p)) : ∃ g : Nat → Int32, σ (b + 3) = some (.inl (0, 7, .inl g)) ∧ ∀ σ', σ' (b + 3) = some (.inl (0, 7, .inl (va_cpy f g o 0 7))) → Eqo (b + 3) 1 σ σ' → SX σ' b (setR a 2 r) lp lq np nq hr dr := by
  obtain ⟨g, g1, g2⟩ := h.2.1 2 (by omega)
  refine ⟨g, g1, fun σ' e1 e2 => ⟨(e2 _ (by omega)).trans h.1, fun i hi => ?_, fun i hi => ?_, ?_⟩⟩
  · by_cases e : i = 2
    · subst e
      refine ⟨_, e1, fun p hp => ?_⟩
      rw [pk_cpy_in (by omega) (by omega), setR_s, Nat.sub_zero]
      exact hf p hp
    · rw [e2 _ (by omega)]
      obtain ⟨z, z1, z2⟩ := h.2.1 i hi
      exact ⟨z, z1, fun p hp => by rw [setR_n e]; exact z2 p hp⟩
  · rw [e2 _ (by omega)]
    obtain ⟨z, z1, z2⟩ := h.2.2.1 i hi
    exact ⟨z, z1, fun p hp => by rw [setR_n (by omega)]; exact z2 p hp⟩
  · rw [e2 _ (by omega)]
    obtain ⟨z, z1, z2⟩ := h.2.2.2
    exact ⟨z, z1, fun p hp => by rw [setR_n (by omega)]; exact z2 p hp⟩
theorem SX.l4 (h : SX σ b a lp lq np nq hr dr) (hl : lq ≤ 6) {f : Nat → Int32} {o : Nat} {r : Nat → Nat} (hf : ∀ p, p < lq → f (o + p) = nI (r p)) : ∃ g : Nat → Int32, σ (b + 5) = some (.inl (0, 6, .inl g)) ∧ ∀ σ', σ' (b + 5) = some (.inl (0, 6, .inl (va_cpy f g o 0 6))) → Eqo (b + 5) 1 σ σ' → SX σ' b (setR a 4 r) lp lq np nq hr dr := by
  obtain ⟨g, g1, g2⟩ := h.2.2.1 1 (by omega)
  refine ⟨g, g1, fun σ' e1 e2 => ⟨(e2 _ (by omega)).trans h.1, fun i hi => ?_, fun i hi => ?_, ?_⟩⟩
  · rw [e2 _ (by omega)]
    obtain ⟨z, z1, z2⟩ := h.2.1 i hi
    exact ⟨z, z1, fun p hp => by rw [setR_n (by omega)]; exact z2 p hp⟩
  · by_cases e : i = 1
    · subst e
      refine ⟨_, e1, fun p hp => ?_⟩
      rw [pk_cpy_in (by omega) (by omega), setR_s, Nat.sub_zero]
      exact hf p hp
    · rw [e2 _ (by omega)]
      obtain ⟨z, z1, z2⟩ := h.2.2.1 i hi
      exact ⟨z, z1, fun p hp => by rw [setR_n (by omega)]; exact z2 p hp⟩
  · rw [e2 _ (by omega)]
    obtain ⟨z, z1, z2⟩ := h.2.2.2
    exact ⟨z, z1, fun p hp => by rw [setR_n (by omega)]; exact z2 p hp⟩
theorem SX.l6 (h : SX σ b a lp lq np nq hr dr) (hl : lq ≤ 6) {f : Nat → Int32} {o : Nat} {r : Nat → Nat} (hf : ∀ p, p < lq → f (o + p) = cI (r p)) : ∃ g : Nat → Int32, σ (b + 7) = some (.inl (0, 6, .inl g)) ∧ ∀ σ', σ' (b + 7) = some (.inl (0, 6, .inl (va_cpy f g o 0 6))) → Eqo (b + 7) 1 σ σ' → SX σ' b (setR a 6 r) lp lq np nq hr dr := by
  obtain ⟨g, g1, g2⟩ := h.2.2.2
  refine ⟨g, g1, fun σ' e1 e2 => ⟨(e2 _ (by omega)).trans h.1, fun i hi => ?_, fun i hi => ?_, ?_⟩⟩
  · rw [e2 _ (by omega)]
    obtain ⟨z, z1, z2⟩ := h.2.1 i hi
    exact ⟨z, z1, fun p hp => by rw [setR_n (by omega)]; exact z2 p hp⟩
  · rw [e2 _ (by omega)]
    obtain ⟨z, z1, z2⟩ := h.2.2.1 i hi
    exact ⟨z, z1, fun p hp => by rw [setR_n (by omega)]; exact z2 p hp⟩
  · refine ⟨_, e1, fun p hp => ?_⟩
    rw [pk_cpy_in (by omega) (by omega), setR_s, Nat.sub_zero]
    exact hf p hp
end LD
set_option maxHeartbeats 4000000 in
set_option maxRecDepth 100000 in
theorem c_X0_recall (l : Launch) (d : Nat) (X : Nat × (Nat → Int32)) (n : Nat) {σ : Wd} {b b' : Nat} {a : SA} {np nq hr dr : Nat} {h : List SN} (hH : Hi σ b h np nq) (hS : St σ b' a np nq hr dr) (hn7 : np ≤ 7) (hn6 : nq ≤ 6) (hb : b + 2 ≤ b' ∨ b' + 8 ≤ b) : CN l yX0_recall cX0_recall 3 (some .boolean) ((d + 1)) X n [.ref b, .ref b'] σ (fun v σ' => v = some (.int (b2 (!h.isEmpty))) ∧ ((match h with | [] => σ' = σ | s :: t => Hi σ' b t np nq ∧ St σ' b' (backA a s.2.2) np nq s.1 s.2.1 ∧ ∀ j, ((j < b ∨ b + 2 ≤ j) ∧ (j < b' ∨ b' + 8 ≤ j)) → σ' j = σ j))) := by
  refine CN.of (by decide) [some (.ref b), some (.ref b'), none] (fun _ => Nat.le_of_ble_eq_true rfl) (fun _ => rfl) (fun cx hc => ?_)
  obtain ⟨nx, f, g1, g2, h0, h1, h5⟩ := hH
  refine R.aload_n (j := 0) (i := 0) hc rfl rfl dX0_recall_0 ?_
  refine R.get hc gf_X0_19_r dX0_recall_1 (h0) rfl ?_
  refine R.ifN_ne (tgt := 9) hc dX0_recall_4 (by decide) (by omega) (fun z => ?_) (fun z => ?_)
  rotate_left
  · refine R.iconst hc ic_0 dX0_recall_7 ?_
    cases h with
    | nil => exact R.bret (c := false) hc rfl dX0_recall_8 rfl ⟨rfl, rfl, rfl⟩
    | cons s t => simp at z
  cases h with
  | nil => exact absurd rfl z
  | cons s t =>
    simp only [List.length_cons] at g2 h0 z
    have hs := h5 0 s rfl
    have hF : ∀ j, ((j < b ∨ b + 2 ≤ j) ∧ (j < b' ∨ b' + 8 ≤ j)) → σ j = σ j := fun _ _ => rfl
    refine R.aload_n (j := 0) (i := 0) hc rfl rfl dX0_recall_9 ?_
    refine R.dup hc rfl dX0_recall_10 ?_
    refine R.get hc gf_X0_19_r dX0_recall_11 (h0) rfl ?_
    refine R.iconst hc ic_1 dX0_recall_14 ?_
    first | refine R.isubN hc (by omega) dX0_recall_15 ?_ | refine R.isub hc dX0_recall_15 ?_
    rw [show t.length + 1 - 1 = t.length by omega]
    refine R.putG hc gf_X0_19 dX0_recall_16 (h0) (Nat.le_of_ble_eq_true rfl) (fun _ => rfl) (fun _ => rfl) (fun σ hX hE => ?_)
    have h1 := (hE _ (by omega)).trans h1
    have h0 := hX
    have hS := SX.eqo hS hE (by omega)
    have hF : ∀ j, ((j < b ∨ b + 2 ≤ j) ∧ (j < b' ∨ b' + 8 ≤ j)) → σ j = _ := fun j hj => (hE j (by omega)).trans (hF j hj)
    refine R.aload_n (j := 0) (i := 0) hc rfl rfl dX0_recall_19 ?_
    refine R.aload_n (j := 0) (i := 0) hc rfl rfl dX0_recall_20 ?_
    refine R.get hc gf_X0_15_r dX0_recall_21 (h0) rfl ?_
    refine R.bipush hc bp_8 dX0_recall_24 ?_
    first | refine R.iaddN hc dX0_recall_26 ?_ | refine R.iadd hc dX0_recall_26 ?_
    refine R.iconst hc ic_1 dX0_recall_27 ?_
    first | refine R.isubN hc (by omega) dX0_recall_28 ?_ | refine R.isub hc dX0_recall_28 ?_
    refine R.bipush hc bp_8 dX0_recall_29 ?_
    first | refine R.iremN hc (by omega) (by omega) (by omega) dX0_recall_31 ?_ | refine R.irem hc (by decide) dX0_recall_31 ?_
    rw [show (nx + 8 - 1) % 8 = (nx + 7 - 0) % 8 by omega]
    refine R.putG hc gf_X0_15 dX0_recall_32 (h0) (Nat.le_of_ble_eq_true rfl) (fun _ => rfl) (fun _ => rfl) (fun σ hX hE => ?_)
    have h1 := (hE _ (by omega)).trans h1
    have h0 := hX
    have hS := SX.eqo hS hE (by omega)
    have hF : ∀ j, ((j < b ∨ b + 2 ≤ j) ∧ (j < b' ∨ b' + 8 ≤ j)) → σ j = _ := fun j hj => (hE j (by omega)).trans (hF j hj)
    refine R.aload_n (j := 0) (i := 0) hc rfl rfl dX0_recall_35 ?_
    refine R.get hc gf_X0_15_r dX0_recall_36 (h0) rfl ?_
    refine R.bipush hc bp_21 dX0_recall_39 ?_
    first | refine R.imulN hc dX0_recall_41 ?_ | refine R.imul hc dX0_recall_41 ?_
    refine R.istn2 hc dX0_recall_42 (by decide) rfl ?_
    refine R.aload_n (j := 0) (i := 0) hc rfl rfl dX0_recall_43 ?_
    refine R.get hc gf_X0_11_r dX0_recall_44 (h0) rfl ?_
    refine R.iload_n (j := 2) (i := 2) hc rfl rfl dX0_recall_47 ?_
    refine R.aload_n (j := 1) (i := 1) hc rfl rfl dX0_recall_48 ?_
    refine R.get hc gf_X0_22 dX0_recall_49 (hS.obj) rfl ?_
    refine R.iconst hc ic_0 dX0_recall_52 ?_
    refine R.bipush hc bp_7 dX0_recall_53 ?_
    obtain ⟨g9v, g9, ld⟩ := SX.l2 hS hn7 (r := s.2.2 2) (f := f) (o := (nx + 7 - 0) % 8 * 21) (fun p hp => hs.1 p hp)
    refine R.copyiG hc lk_X0_25 dX0_recall_55 (h1) (g9) (by omega) (by omega) (by decide) (by decide) (by omega) (Nat.le_of_ble_eq_true rfl) (fun σ hX hE => ?_)
    have hS := ld σ hX hE
    have h0 := (hE _ (by omega)).trans h0
    have h1 := (hE _ (by omega)).trans h1
    have hF : ∀ j, ((j < b ∨ b + 2 ≤ j) ∧ (j < b' ∨ b' + 8 ≤ j)) → σ j = _ := fun j hj => (hE j (by omega)).trans (hF j hj)
    refine R.aload_n (j := 0) (i := 0) hc rfl rfl dX0_recall_58 ?_
    refine R.get hc gf_X0_11_r dX0_recall_59 (h0) rfl ?_
    refine R.iload_n (j := 2) (i := 2) hc rfl rfl dX0_recall_62 ?_
    refine R.bipush hc bp_7 dX0_recall_63 ?_
    first | refine R.iaddN hc dX0_recall_65 ?_ | refine R.iadd hc dX0_recall_65 ?_
    refine R.aload_n (j := 1) (i := 1) hc rfl rfl dX0_recall_66 ?_
    refine R.get hc gf_X0_31 dX0_recall_67 (hS.obj) rfl ?_
    refine R.iconst hc ic_0 dX0_recall_70 ?_
    refine R.bipush hc bp_6 dX0_recall_71 ?_
    obtain ⟨g9v, g9, ld⟩ := SX.l6 hS hn6 (r := s.2.2 6) (f := f) (o := (nx + 7 - 0) % 8 * 21 + 7) (fun p hp => hs.2.1 p hp)
    refine R.copyiG hc lk_X0_25 dX0_recall_73 (h1) (g9) (by omega) (by omega) (by decide) (by decide) (by omega) (Nat.le_of_ble_eq_true rfl) (fun σ hX hE => ?_)
    have hS := ld σ hX hE
    have h0 := (hE _ (by omega)).trans h0
    have h1 := (hE _ (by omega)).trans h1
    have hF : ∀ j, ((j < b ∨ b + 2 ≤ j) ∧ (j < b' ∨ b' + 8 ≤ j)) → σ j = _ := fun j hj => (hE j (by omega)).trans (hF j hj)
    refine R.aload_n (j := 0) (i := 0) hc rfl rfl dX0_recall_76 ?_
    refine R.get hc gf_X0_11_r dX0_recall_77 (h0) rfl ?_
    refine R.iload_n (j := 2) (i := 2) hc rfl rfl dX0_recall_80 ?_
    refine R.bipush hc bp_13 dX0_recall_81 ?_
    first | refine R.iaddN hc dX0_recall_83 ?_ | refine R.iadd hc dX0_recall_83 ?_
    refine R.aload_n (j := 1) (i := 1) hc rfl rfl dX0_recall_84 ?_
    refine R.get hc gf_X0_34 dX0_recall_85 (hS.obj) rfl ?_
    refine R.iconst hc ic_0 dX0_recall_88 ?_
    refine R.bipush hc bp_6 dX0_recall_89 ?_
    obtain ⟨g9v, g9, ld⟩ := SX.l4 hS hn6 (r := s.2.2 4) (f := f) (o := (nx + 7 - 0) % 8 * 21 + 13) (fun p hp => hs.2.2.1 p hp)
    refine R.copyiG hc lk_X0_25 dX0_recall_91 (h1) (g9) (by omega) (by omega) (by decide) (by decide) (by omega) (Nat.le_of_ble_eq_true rfl) (fun σ hX hE => ?_)
    have hS := ld σ hX hE
    have h0 := (hE _ (by omega)).trans h0
    have h1 := (hE _ (by omega)).trans h1
    have hF : ∀ j, ((j < b ∨ b + 2 ≤ j) ∧ (j < b' ∨ b' + 8 ≤ j)) → σ j = _ := fun j hj => (hE j (by omega)).trans (hF j hj)
    refine R.aload_n (j := 1) (i := 1) hc rfl rfl dX0_recall_94 ?_
    refine R.aload_n (j := 0) (i := 0) hc rfl rfl dX0_recall_95 ?_
    refine R.get hc gf_X0_11_r dX0_recall_96 (h0) rfl ?_
    refine R.iload_n (j := 2) (i := 2) hc rfl rfl dX0_recall_99 ?_
    refine R.bipush hc bp_19 dX0_recall_100 ?_
    first | refine R.iaddN hc dX0_recall_102 ?_ | refine R.iadd hc dX0_recall_102 ?_
    refine R.iald hc h1 (by omega) (by decide) dX0_recall_103 ?_
    rw [hs.2.2.2.1]
    refine R.putW hc gf_X0_37 dX0_recall_104 (hS.p9 _) (fun _ => rfl) (fun _ => rfl) (fun σ hX => ?_)
    obtain ⟨hS, hE⟩ := hX
    have h0 := (hE _ (by omega)).trans h0
    have h1 := (hE _ (by omega)).trans h1
    have hF : ∀ j, ((j < b ∨ b + 2 ≤ j) ∧ (j < b' ∨ b' + 8 ≤ j)) → σ j = _ := fun j hj => (hE j (by omega)).trans (hF j hj)
    refine R.aload_n (j := 1) (i := 1) hc rfl rfl dX0_recall_107 ?_
    refine R.aload_n (j := 0) (i := 0) hc rfl rfl dX0_recall_108 ?_
    refine R.get hc gf_X0_11_r dX0_recall_109 (h0) rfl ?_
    refine R.iload_n (j := 2) (i := 2) hc rfl rfl dX0_recall_112 ?_
    refine R.bipush hc bp_20 dX0_recall_113 ?_
    first | refine R.iaddN hc dX0_recall_115 ?_ | refine R.iadd hc dX0_recall_115 ?_
    refine R.iald hc h1 (by omega) (by decide) dX0_recall_116 ?_
    rw [hs.2.2.2.2]
    refine R.putW hc gf_X0_40 dX0_recall_117 (hS.p10 _) (fun _ => rfl) (fun _ => rfl) (fun σ hX => ?_)
    obtain ⟨hS, hE⟩ := hX
    have h0 := (hE _ (by omega)).trans h0
    have h1 := (hE _ (by omega)).trans h1
    have hF : ∀ j, ((j < b ∨ b + 2 ≤ j) ∧ (j < b' ∨ b' + 8 ≤ j)) → σ j = _ := fun j hj => (hE j (by omega)).trans (hF j hj)
    refine R.iconst hc ic_1 dX0_recall_120 ?_
    rw [backA_eq] at hS
    refine R.bret (c := true) hc rfl dX0_recall_121 rfl ⟨rfl, rfl, ⟨(nx + 7 - 0) % 8, f, by omega, by omega, h0, h1, fun i s' hi => ?_⟩, hS, hF⟩
    have h6 := h5 (i + 1) s' (by simpa using hi)
    have hi8 : i < t.length := (List.getElem?_eq_some_iff.mp hi).1
    rw [show ((nx + 7 - 0) % 8 + 7 - i) % 8 = (nx + 7 - (i + 1)) % 8 by omega]
    exact h6
