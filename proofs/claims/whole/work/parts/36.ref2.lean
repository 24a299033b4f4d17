/-- what may be undone, as the reference keeps it -/
def UdR (f : Nat → Int32) (hs : List SN) (np nq : Nat) : Prop := ∀ (i : Nat) (s : SN), hs[i]? = some s → f (21 * (hs.length - 1 - i)) = nI s.1 ∧ f (21 * (hs.length - 1 - i) + 1) = nI s.2.1 ∧ (∀ p, p < np → f (21 * (hs.length - 1 - i) + 2 + p) = nI (s.2.2 2 p)) ∧ (∀ q, q < nq → f (21 * (hs.length - 1 - i) + 9 + q) = nI (s.2.2 4 q)) ∧ ∀ q, q < nq → f (21 * (hs.length - 1 - i) + 15 + q) = cI (s.2.2 6 q)
theorem UdR.ag {f g : Nat → Int32} {hs : List SN} {np nq : Nat} (h : UdR f hs np nq) (hl : hs.length ≤ 8) (hp : np ≤ 7) (hq : nq ≤ 6) (e : ∀ j, j < 21 * hs.length → g j = f j) : UdR g hs np nq := by
  intro i s hi
  have hil : i < hs.length := by
    rcases Nat.lt_or_ge i hs.length with y | y
    · exact y
    · rw [List.getElem?_eq_none y] at hi; exact absurd hi (by simp)
  obtain ⟨h1, h2, h3, h4, h5⟩ := h i s hi
  exact ⟨(e _ (by omega)).trans h1, (e _ (by omega)).trans h2, fun p hp => (e _ (by omega)).trans (h3 p hp), fun q hq => (e _ (by omega)).trans (h4 q hq), fun q hq => (e _ (by omega)).trans (h5 q hq)⟩
def KpR (f : Nat → Int32) (x y : Int32) (im : IM) : Prop := y = b2 im.isSome ∧ ∀ q, im = some q → NowR f q.1 q.2.1 q.2.2.1 q.2.2.2.1 q.2.2.2.2.1 ∧ UdR (fun j => f (49 + j)) q.2.2.2.2.2 q.2.1 q.2.2.1 ∧ x = nI q.2.2.2.2.2.length ∧ q.2.2.2.2.2.length ≤ 8
def RS (A : Nat → Nat → Int32) (L : Nat → Nat → Int64) (I : Nat → Int32) (a : SA) (np nq hr dr : Nat) (hs : List SN) (im : IM) (tp : Nat → Nat) (tl : Nat) (ln sz : Nat → Nat) (it : Nat → Nat → Int64) : Prop :=
  NowR (A 0) a np nq hr dr ∧ UdR (A 5) hs np nq ∧ I 3 = nI hs.length ∧ hs.length ≤ 8 ∧ (∀ j, j < tl → A 2 j = nI (tp j)) ∧ I 0 = nI tl ∧ KpR (A 11) (I 4) (I 5) im ∧ (∀ s, s < 4 → A 12 s = lnI (ln s)) ∧ (∀ s, s < 4 → A 13 s = nI (sz s)) ∧ ∀ s, s < 4 → ∀ i, i < sz s → L 0 (24 * s + i) = it s i
def RA (σ : Wd) (a : SA) (np nq hr dr : Nat) (hs : List SN) (im : IM) (tp : Nat → Nat) (tl : Nat) (ln sz : Nat → Nat) (it : Nat → Nat → Int64) : Prop := ∃ A L I, RW σ A L I ∧ RS A L I a np nq hr dr hs im tp tl ln sz it
section RSS
variable {A A' : Nat → Nat → Int32} {L : Nat → Nat → Int64} {I I' : Nat → Int32} {a a' : SA} {np nq hr dr hr' dr' : Nat} {hs hs' : List SN} {im : IM} {tp : Nat → Nat} {tl : Nat} {ln sz : Nat → Nat} {it : Nat → Nat → Int64}
theorem RS.n (h : RS A L I a np nq hr dr hs im tp tl ln sz it) : NowR (A 0) a np nq hr dr := h.1
theorem RS.u (h : RS A L I a np nq hr dr hs im tp tl ln sz it) : UdR (A 5) hs np nq := h.2.1
theorem RS.un (h : RS A L I a np nq hr dr hs im tp tl ln sz it) : I 3 = nI hs.length := h.2.2.1
theorem RS.ul (h : RS A L I a np nq hr dr hs im tp tl ln sz it) : hs.length ≤ 8 := h.2.2.2.1
theorem RS.t (h : RS A L I a np nq hr dr hs im tp tl ln sz it) : ∀ j, j < tl → A 2 j = nI (tp j) := h.2.2.2.2.1
theorem RS.tn (h : RS A L I a np nq hr dr hs im tp tl ln sz it) : I 0 = nI tl := h.2.2.2.2.2.1
theorem RS.k (h : RS A L I a np nq hr dr hs im tp tl ln sz it) : KpR (A 11) (I 4) (I 5) im := h.2.2.2.2.2.2.1
theorem RS.l (h : RS A L I a np nq hr dr hs im tp tl ln sz it) : ∀ s, s < 4 → A 12 s = lnI (ln s) := h.2.2.2.2.2.2.2.1
theorem RS.s (h : RS A L I a np nq hr dr hs im tp tl ln sz it) : ∀ s, s < 4 → A 13 s = nI (sz s) := h.2.2.2.2.2.2.2.2.1
theorem RS.i (h : RS A L I a np nq hr dr hs im tp tl ln sz it) : ∀ s, s < 4 → ∀ i, i < sz s → L 0 (24 * s + i) = it s i := h.2.2.2.2.2.2.2.2.2
/-- the street and what may be undone are told anew -/
theorem RS.nx {np' nq' : Nat} (h : RS A L I a np nq hr dr hs im tp tl ln sz it) (h0 : NowR (A' 0) a' np' nq' hr' dr') (h5 : UdR (A' 5) hs' np' nq') (h3 : I' 3 = nI hs'.length) (hl : hs'.length ≤ 8) (eA : ∀ k, k = 2 ∨ 11 ≤ k → A' k = A k) (eI : ∀ k, k = 0 ∨ 4 ≤ k → I' k = I k) : RS A' L I' a' np' nq' hr' dr' hs' im tp tl ln sz it := by
  refine ⟨h0, h5, h3, hl, ?_, ?_, ?_, ?_, ?_, h.i⟩
  · rw [eA 2 (by omega)]; exact h.t
  · rw [eI 0 (by omega)]; exact h.tn
  · rw [eA 11 (by omega), eI 4 (by omega), eI 5 (by omega)]; exact h.k
  · rw [eA 12 (by omega)]; exact h.l
  · rw [eA 13 (by omega)]; exact h.s
/-- nothing of it is changed -/
theorem RS.q (h : RS A L I a np nq hr dr hs im tp tl ln sz it) (hp : np ≤ 7) (hq : nq ≤ 6) (e0 : ∀ j, j < 49 → A' 0 j = A 0 j) (eA : ∀ k, k = 2 ∨ k = 5 ∨ 11 ≤ k → A' k = A k) : RS A' L I a np nq hr dr hs im tp tl ln sz it :=
  h.nx (h.n.ag hp hq e0) (by rw [eA 5 (by omega)]; exact h.u) h.un h.ul (fun k hk => eA k (by omega)) (fun _ _ => rfl)
end RSS
theorem remem_len {hs : List SN} {s : SN} : (remem hs s).length ≤ 8 := by
  unfold remem
  rw [List.length_take]
  omega
section RG
variable {cx : Cx} {l : Launch} {y : MethodName} {cc : ByteArray} {nL : Nat} {ret : Option FieldType} {d mc ms n0 : Nat} {X : Nat × (Nat → Int32)} {Q : Option Value → Nat → Wd → Prop} {kc ks n : Nat} {σ : Wd} {pc : Nat} {ls : List (Option Value)} {st : List Value}
theorem R.gtV (hc : cx = (l, y, cc, nL, ret, d, mc, ms, n0, X, Q)) {i idx ci k : Nat} {fs : List Value} {x v : Int32} (hg : rl_GR y.cls idx ci k) (hd : decode cc pc = .ok (.getfield idx, 3)) (he : σ i = some (.inr (ci, fs))) (hv : fs[k]? = some (.int x)) (hx : x = v) (kk : R cx kc ks n σ (pc + 3) ls (.int v :: st)) : R cx kc ks n σ pc ls (.ref i :: st) := R.get hc hg hd he hv (by rw [hx]; exact kk)
end RG
theorem NowR.np1 {f : Nat → Int32} {a : SA} {np nq hr dr : Nat} (h : NowR f a np nq hr dr) (hp : np < 7) (e : ∀ k, k < 3 → f (4 + 3 * np + k) = nI (a k np)) : NowR (upd f 0 (nI (np + 1))) a (np + 1) nq hr dr := by
  obtain ⟨h0, h1, h2, h3, h4, h5, h6⟩ := h
  refine ⟨pk_us, by rw [pk_un (by omega)]; exact h1, by rw [pk_un (by omega)]; exact h2, by rw [pk_un (by omega)]; exact h3, fun k hk p hp => ?_, fun k hk q hq => by rw [pk_un (by omega)]; exact h5 k hk q hq, fun q hq => by rw [pk_un (by omega)]; exact h6 q hq⟩
  rw [pk_un (by omega)]
  by_cases y : p = np
  · rw [y]; exact e k hk
  · exact h4 k hk p (by omega)
theorem NowR.nq1 {f : Nat → Int32} {a : SA} {np nq hr dr : Nat} (h : NowR f a np nq hr dr) (hq : nq < 6) (e : ∀ k, k < 3 → f (25 + 4 * nq + k) = nI (a (3 + k) nq)) (e6 : f (25 + 4 * nq + 3) = cI (a 6 nq)) : NowR (upd f 1 (nI (nq + 1))) a np (nq + 1) hr dr := by
  obtain ⟨h0, h1, h2, h3, h4, h5, h6⟩ := h
  refine ⟨by rw [pk_un (by omega)]; exact h0, pk_us, by rw [pk_un (by omega)]; exact h2, by rw [pk_un (by omega)]; exact h3, fun k hk p hp => by rw [pk_un (by omega)]; exact h4 k hk p hp, fun k hk q hq => ?_, fun q hq => ?_⟩
  · rw [pk_un (by omega)]
    by_cases y : q = nq
    · rw [y]; exact e k hk
    · exact h5 k hk q (by omega)
  · rw [pk_un (by omega)]
    by_cases y : q = nq
    · rw [y]; exact e6
    · exact h6 q (by omega)
set_option maxHeartbeats 4000000 in
set_option maxRecDepth 100000 in
theorem c_X7_asides (l : Launch) (d : Nat) (X : Nat × (Nat → Int32)) (n : Nat) {σ : Wd} {A : Nat → Nat → Int32} {L : Nat → Nat → Int64} {I : Nat → Int32} (hR : RW σ A L I) : CN l yX7_asides cX7_asides 2 none (d) X n [.ref 42] σ (fun v σ' => v = none ∧ ∃ A', RW σ' A' L I ∧ (∀ j, j < 49 → A' 6 j = A 0 j) ∧ (∀ k, k ≠ 6 → A' k = A k) ∧ Eqo 42 17 σ σ') := by
  refine CN.of (by decide) [some (.ref 42), none] (fun _ => Nat.le_of_ble_eq_true rfl) (fun _ => rfl) (fun cx hc => ?_)
  obtain ⟨σ0, hσ0⟩ : ∃ z, z = σ := ⟨_, rfl⟩
  obtain ⟨A0, hA0⟩ : ∃ z, z = A := ⟨_, rfl⟩
  rw [← hσ0, ← hA0] at hc
  have hF : Eqo 42 17 σ0 σ := by rw [hσ0]; exact Eqo.rf
  refine R.iconst hc ic_0 dX7_asides_0 ?_
  refine R.istn1 hc dX7_asides_1 (by decide) rfl ?_
  refine rl_down (P := fun p => ∀ (σ : Wd) (A : Nat → Nat → Int32), RW σ A L I → (∀ j, j < p → A 6 j = A0 0 j) → (∀ k, k ≠ 6 → A k = A0 k) → Eqo 42 17 σ0 σ → R cx 0 0 n σ 2 [some (.ref 42), some (.int (nI p))] []) 49 (fun σ A hR hB hFr hF => ?_) (fun p hp ih σ A hR hB hFr hF => ?_) 0 (Nat.zero_le _) σ A hR (fun j hj => absurd hj (by omega)) (fun k _ => by rw [hA0]) hF
  · refine R.iload_n (j := 1) (i := 1) hc rfl rfl dX7_asides_2 ?_
    refine R.bipush hc bp_49 dX7_asides_3 ?_
    refine R.icmpN_ge (tgt := 26) hc dX7_asides_5 (by decide) (by omega) (by omega) (fun _ => ?_) (fun z => absurd (Nat.le_refl _) z)
    exact R.vret hc rfl dX7_asides_26 ⟨rfl, rfl, A, hR, hB, hFr, hF⟩
  · refine R.iload_n (j := 1) (i := 1) hc rfl rfl dX7_asides_2 ?_
    refine R.bipush hc bp_49 dX7_asides_3 ?_
    refine R.icmpN_ge (tgt := 26) hc dX7_asides_5 (by decide) (by omega) (by omega) (fun z => absurd z (by omega)) (fun _ => ?_)
    refine R.aload_n (j := 0) (i := 0) hc rfl rfl dX7_asides_8 ?_
    refine R.get hc gf_X7_28_r dX7_asides_9 (hR.1) rfl ?_
    refine R.iload_n (j := 1) (i := 1) hc rfl rfl dX7_asides_12 ?_
    refine R.aload_n (j := 0) (i := 0) hc rfl rfl dX7_asides_13 ?_
    refine R.get hc gf_X7_7_r dX7_asides_14 (hR.1) rfl ?_
    refine R.iload_n (j := 1) (i := 1) hc rfl rfl dX7_asides_17 ?_
    refine R.iald hc hR.g0 (by omega) (by decide) dX7_asides_18 ?_
    refine R.iastG hc dX7_asides_19 hR.g6 (by omega) (by decide) (fun σ hX hE => ?_)
    have hR := hR.w6 hX hE
    have hF := hF.tr (hE.wid (by omega))
    refine R.iinc1 hc dX7_asides_20 (iiN1 _) (by decide) rfl ?_
    refine R.goto (tgt := 2) hc dX7_asides_23 (by decide) ?_
    exact ih σ _ hR (fun j hj => by
      rw [A2_s]
      by_cases e : j = p
      · rw [e, pk_us, hFr 0 (by omega)]
      · rw [pk_un e]; exact hB j (by omega)) (fun k hk => by rw [A2_n hk]; exact hFr k hk) hF
set_option maxHeartbeats 4000000 in
set_option maxRecDepth 100000 in
theorem c_X7_backs (l : Launch) (d : Nat) (X : Nat × (Nat → Int32)) (n : Nat) {σ : Wd} {A : Nat → Nat → Int32} {L : Nat → Nat → Int64} {I : Nat → Int32} (hR : RW σ A L I) : CN l yX7_backs cX7_backs 2 none (d) X n [.ref 42] σ (fun v σ' => v = none ∧ ∃ A', RW σ' A' L I ∧ (∀ j, j < 49 → A' 0 j = A 6 j) ∧ (∀ k, k ≠ 0 → A' k = A k) ∧ Eqo 42 17 σ σ') := by
  refine CN.of (by decide) [some (.ref 42), none] (fun _ => Nat.le_of_ble_eq_true rfl) (fun _ => rfl) (fun cx hc => ?_)
  obtain ⟨σ0, hσ0⟩ : ∃ z, z = σ := ⟨_, rfl⟩
  obtain ⟨A0, hA0⟩ : ∃ z, z = A := ⟨_, rfl⟩
  rw [← hσ0, ← hA0] at hc
  have hF : Eqo 42 17 σ0 σ := by rw [hσ0]; exact Eqo.rf
  refine R.iconst hc ic_0 dX7_backs_0 ?_
  refine R.istn1 hc dX7_backs_1 (by decide) rfl ?_
  refine rl_down (P := fun p => ∀ (σ : Wd) (A : Nat → Nat → Int32), RW σ A L I → (∀ j, j < p → A 0 j = A0 6 j) → (∀ k, k ≠ 0 → A k = A0 k) → Eqo 42 17 σ0 σ → R cx 0 0 n σ 2 [some (.ref 42), some (.int (nI p))] []) 49 (fun σ A hR hB hFr hF => ?_) (fun p hp ih σ A hR hB hFr hF => ?_) 0 (Nat.zero_le _) σ A hR (fun j hj => absurd hj (by omega)) (fun k _ => by rw [hA0]) hF
  · refine R.iload_n (j := 1) (i := 1) hc rfl rfl dX7_backs_2 ?_
    refine R.bipush hc bp_49 dX7_backs_3 ?_
    refine R.icmpN_ge (tgt := 26) hc dX7_backs_5 (by decide) (by omega) (by omega) (fun _ => ?_) (fun z => absurd (Nat.le_refl _) z)
    exact R.vret hc rfl dX7_backs_26 ⟨rfl, rfl, A, hR, hB, hFr, hF⟩
  · refine R.iload_n (j := 1) (i := 1) hc rfl rfl dX7_backs_2 ?_
    refine R.bipush hc bp_49 dX7_backs_3 ?_
    refine R.icmpN_ge (tgt := 26) hc dX7_backs_5 (by decide) (by omega) (by omega) (fun z => absurd z (by omega)) (fun _ => ?_)
    refine R.aload_n (j := 0) (i := 0) hc rfl rfl dX7_backs_8 ?_
    refine R.get hc gf_X7_7_r dX7_backs_9 (hR.1) rfl ?_
    refine R.iload_n (j := 1) (i := 1) hc rfl rfl dX7_backs_12 ?_
    refine R.aload_n (j := 0) (i := 0) hc rfl rfl dX7_backs_13 ?_
    refine R.get hc gf_X7_28_r dX7_backs_14 (hR.1) rfl ?_
    refine R.iload_n (j := 1) (i := 1) hc rfl rfl dX7_backs_17 ?_
    refine R.iald hc hR.g6 (by omega) (by decide) dX7_backs_18 ?_
    refine R.iastG hc dX7_backs_19 hR.g0 (by omega) (by decide) (fun σ hX hE => ?_)
    have hR := hR.w0 hX hE
    have hF := hF.tr (hE.wid (by omega))
    refine R.iinc1 hc dX7_backs_20 (iiN1 _) (by decide) rfl ?_
    refine R.goto (tgt := 2) hc dX7_backs_23 (by decide) ?_
    exact ih σ _ hR (fun j hj => by
      rw [A2_s]
      by_cases e : j = p
      · rw [e, pk_us, hFr 6 (by omega)]
      · rw [pk_un e]; exact hB j (by omega)) (fun k hk => by rw [A2_n hk]; exact hFr k hk) hF
set_option maxHeartbeats 4000000 in
set_option maxRecDepth 100000 in
theorem c_X7_rains (l : Launch) (d : Nat) (X : Nat × (Nat → Int32)) (n : Nat) {σ : Wd} {A : Nat → Nat → Int32} {L : Nat → Nat → Int64} {I : Nat → Int32} (hR : RW σ A L I) {a : SA} {np nq hr dr : Nat} (hN : NowR (A 0) a np nq hr dr) (hW : WF a np nq) {w : Nat} (hw : w ≤ 60) : CN l yX7_rains cX7_rains 3 none ((d + 2)) X n [.ref 42, .int (nI w)] σ (fun v σ' => v = none ∧ RN σ σ' A L I (rainK a w np) np nq hr dr) := by
  refine CN.of (by decide) [some (.ref 42), some (.int (nI w)), none] (fun _ => Nat.le_of_ble_eq_true rfl) (fun _ => rfl) (fun cx hc => ?_)
  have hW1 := hW.1
  have hW2 := hW.2.1
  have hF : Eqo 42 17 σ σ := Eqo.rf
  obtain ⟨σ0, hσ0⟩ : ∃ z, z = σ := ⟨_, rfl⟩
  obtain ⟨A0, hA0⟩ : ∃ z, z = A := ⟨_, rfl⟩
  rw [← hσ0, ← hA0] at hc
  have hF : Eqo 42 17 σ0 σ := by rw [hσ0]; exact Eqo.rf
  refine R.iconst hc ic_0 dX7_rains_0 ?_
  refine R.istn2 hc dX7_rains_1 (by decide) rfl ?_
  refine rl_down (P := fun p => ∀ (σ : Wd) (A : Nat → Nat → Int32), RW σ A L I → NowR (A 0) (rainK a w p) np nq hr dr → (∀ k, 2 ≤ k → A k = A0 k) → Eqo 42 17 σ0 σ → R cx 0 0 n σ 2 [some (.ref 42), some (.int (nI w)), some (.int (nI p))] []) np (fun σ A hR hN hFr hF => ?_) (fun p hp ih σ A hR hN hFr hF => ?_) 0 (Nat.zero_le _) σ A hR (by rw [rainK_0]; exact hN) (fun k _ => by rw [hA0]) hF
  · refine R.iload_n (j := 2) (i := 2) hc rfl rfl dX7_rains_2 ?_
    refine R.aload_n (j := 0) (i := 0) hc rfl rfl dX7_rains_3 ?_
    refine R.get hc gf_X7_7_r dX7_rains_4 (hR.1) rfl ?_
    refine R.iconst hc ic_0 dX7_rains_7 ?_
    refine R.ialdV hc hR.g0 (by omega) (by decide) dX7_rains_8 (hN.1) ?_
    refine R.icmpN_ge (tgt := 30) hc dX7_rains_9 (by decide) (by omega) (by omega) (fun _ => ?_) (fun z => absurd (Nat.le_refl _) z)
    exact R.vret hc rfl dX7_rains_30 ⟨rfl, rfl, A, hR, hN, hFr, hF⟩
  · obtain ⟨h0, h1, h2⟩ := hW.2.2.1 p hp
    have e2 : rainK a w p 2 p = a 2 p := by simp [rainK]
    have e3 : (if 60 < a 2 p + w then 60 else a 2 p + w) = min 60 (a 2 p + w) := by split <;> omega
    refine R.iload_n (j := 2) (i := 2) hc rfl rfl dX7_rains_2 ?_
    refine R.aload_n (j := 0) (i := 0) hc rfl rfl dX7_rains_3 ?_
    refine R.get hc gf_X7_7_r dX7_rains_4 (hR.1) rfl ?_
    refine R.iconst hc ic_0 dX7_rains_7 ?_
    refine R.ialdV hc hR.g0 (by omega) (by decide) dX7_rains_8 (hN.1) ?_
    refine R.icmpN_ge (tgt := 30) hc dX7_rains_9 (by decide) (by omega) (by omega) (fun z => absurd z (by omega)) (fun _ => ?_)
    refine R.aload_n (j := 0) (i := 0) hc rfl rfl dX7_rains_12 ?_
    refine R.iload_n (j := 2) (i := 2) hc rfl rfl dX7_rains_13 ?_
    refine R.aload_n (j := 0) (i := 0) hc rfl rfl dX7_rains_14 ?_
    refine R.iload_n (j := 2) (i := 2) hc rfl rfl dX7_rains_15 ?_
    refine R.cVr hc m_X7_deep lk_X7_78 dX7_rains_16 (n_X7_deep l d X n hR hN (WF_rainK hW) (by omega)) (hR.1) rfl rfl rfl (by omega) ⟨Nat.le_refl _, Nat.le_refl _⟩ (Nat.le_of_ble_eq_true rfl) ?_
    refine R.iload_n (j := 1) (i := 1) hc rfl rfl dX7_rains_19 ?_
    first | refine R.iaddN hc dX7_rains_20 ?_ | refine R.iadd hc dX7_rains_20 ?_
    refine R.cVu hc m_X7_deeps lk_X7_102 dX7_rains_21 (c_X7_deeps l (d + 1) X n hR (by omega) _) (hR.1) rfl rfl rfl (by omega) ⟨Nat.le_refl _, Nat.le_refl _⟩ (Nat.le_of_ble_eq_true rfl) (fun σ hX => ?_)
    obtain ⟨hR, hE⟩ := hX
    rw [e2, clI_n (by omega), e3] at hR
    have hF := hF.tr hE
    refine R.iinc2 hc dX7_rains_24 (iiN1 _) (by decide) rfl ?_
    refine R.goto (tgt := 2) hc dX7_rains_27 (by decide) ?_
    exact ih σ _ hR (by rw [A2_s, ← rainK_s]; exact hN.wp (by omega) (by omega)) (fun k hk => by rw [A2_n (by omega)]; exact hFr k hk) hF
set_option maxHeartbeats 4000000 in
set_option maxRecDepth 100000 in
theorem c_X7_puddleComes (l : Launch) (d : Nat) (X : Nat × (Nat → Int32)) (n : Nat) {σ : Wd} {A : Nat → Nat → Int32} {L : Nat → Nat → Int64} {I : Nat → Int32} (hR : RW σ A L I) {a : SA} {np nq hr dr : Nat} (hN : NowR (A 0) a np nq hr dr) (hp : np < 7) (x y z : Nat) : CN l yX7_puddleComes cX7_puddleComes 5 none (d) X n [.ref 42, .int (nI x), .int (nI y), .int (nI z)] σ (fun v σ' => v = none ∧ ∃ A', RW σ' A' L (un I 3 (nI 0)) ∧ NowR (A' 0) (a3 a np x y z) (np + 1) nq hr dr ∧ (∀ k, k ≠ 0 → A' k = A k) ∧ Eqo 42 17 σ σ') := by
  refine CN.of (by decide) [some (.ref 42), some (.int (nI x)), some (.int (nI y)), some (.int (nI z)), none] (fun _ => Nat.le_of_ble_eq_true rfl) (fun _ => rfl) (fun cx hc => ?_)
  have hF : Eqo 42 17 σ σ := Eqo.rf
  refine R.iconst hc ic_4 dX7_puddleComes_0 ?_
  refine R.iconst hc ic_3 dX7_puddleComes_1 ?_
  refine R.aload_n (j := 0) (i := 0) hc rfl rfl dX7_puddleComes_2 ?_
  refine R.get hc gf_X7_7_r dX7_puddleComes_3 (hR.1) rfl ?_
  refine R.iconst hc ic_0 dX7_puddleComes_6 ?_
  refine R.ialdV hc hR.g0 (by omega) (by decide) dX7_puddleComes_7 (hN.1) ?_
  first | refine R.imulN hc dX7_puddleComes_8 ?_ | refine R.imul hc dX7_puddleComes_8 ?_
  first | refine R.iaddN hc dX7_puddleComes_9 ?_ | refine R.iadd hc dX7_puddleComes_9 ?_
  refine R.ist4 hc dX7_puddleComes_10 (by decide) rfl ?_
  refine R.aload_n (j := 0) (i := 0) hc rfl rfl dX7_puddleComes_12 ?_
  refine R.get hc gf_X7_7_r dX7_puddleComes_13 (hR.1) rfl ?_
  refine R.iload (i := 4) hc rfl dX7_puddleComes_16 ?_
  refine R.iload_n (j := 1) (i := 1) hc rfl rfl dX7_puddleComes_18 ?_
  refine R.iastG hc dX7_puddleComes_19 hR.g0 (by omega) (by decide) (fun σ hX hE => ?_)
  have hR := hR.w0 hX hE
  have hF := hF.tr (hE.wid (by omega))
  refine R.aload_n (j := 0) (i := 0) hc rfl rfl dX7_puddleComes_20 ?_
  refine R.get hc gf_X7_7_r dX7_puddleComes_21 (hR.1) rfl ?_
  refine R.iload (i := 4) hc rfl dX7_puddleComes_24 ?_
  refine R.iconst hc ic_1 dX7_puddleComes_26 ?_
  first | refine R.iaddN hc dX7_puddleComes_27 ?_ | refine R.iadd hc dX7_puddleComes_27 ?_
  refine R.iload_n (j := 2) (i := 2) hc rfl rfl dX7_puddleComes_28 ?_
  refine R.iastG hc dX7_puddleComes_29 hR.g0 (by omega) (by decide) (fun σ hX hE => ?_)
  have hR := hR.w0 hX hE
  have hF := hF.tr (hE.wid (by omega))
  refine R.aload_n (j := 0) (i := 0) hc rfl rfl dX7_puddleComes_30 ?_
  refine R.get hc gf_X7_7_r dX7_puddleComes_31 (hR.1) rfl ?_
  refine R.iload (i := 4) hc rfl dX7_puddleComes_34 ?_
  refine R.iconst hc ic_2 dX7_puddleComes_36 ?_
  first | refine R.iaddN hc dX7_puddleComes_37 ?_ | refine R.iadd hc dX7_puddleComes_37 ?_
  refine R.iload_n (j := 3) (i := 3) hc rfl rfl dX7_puddleComes_38 ?_
  refine R.iastG hc dX7_puddleComes_39 hR.g0 (by omega) (by decide) (fun σ hX hE => ?_)
  have hR := hR.w0 hX hE
  have hF := hF.tr (hE.wid (by omega))
  have hN3 : NowR (upd (upd (upd (A 0) (4 + 3 * np) (nI x)) (4 + 3 * np + 1) (nI y)) (4 + 3 * np + 2) (nI z)) (a3 a np x y z) np nq hr dr := ((hN.wp (k := 0) (by omega) hp).wp (k := 1) (by omega) hp).wp (k := 2) (by omega) hp
  have hZ : ∀ k, k < 3 → (upd (upd (upd (A 0) (4 + 3 * np) (nI x)) (4 + 3 * np + 1) (nI y)) (4 + 3 * np + 2) (nI z)) (4 + 3 * np + k) = nI (a3 a np x y z k np) := by
    intro k hk
    rcases (by omega : k = 0 ∨ k = 1 ∨ k = 2) with rfl | rfl | rfl
    · rw [pk_un (by omega), pk_un (by omega), Nat.add_zero, pk_us]; simp [a3, a2]
    · rw [pk_un (by omega), pk_us]; simp [a3, a2]
    · rw [pk_us]; simp [a3, a2]
  have hN4 := hN3.np1 hp hZ
  obtain ⟨B, hB⟩ : ∃ w, w = A2 (A2 (A2 A 0 (4 + 3 * np) (nI x)) 0 (4 + 3 * np + 1) (nI y)) 0 (4 + 3 * np + 2) (nI z) := ⟨_, rfl⟩
  have hB0 : B 0 = (upd (upd (upd (A 0) (4 + 3 * np) (nI x)) (4 + 3 * np + 1) (nI y)) (4 + 3 * np + 2) (nI z)) := by rw [hB, A2_s, A2_s, A2_s]
  have hBk : ∀ k, k ≠ 0 → B k = A k := fun k hk => by rw [hB, A2_n hk, A2_n hk, A2_n hk]
  rw [← hB] at hR
  rw [← hB0] at hN3 hN4
  have hN := hN3
  refine R.aload_n (j := 0) (i := 0) hc rfl rfl dX7_puddleComes_40 ?_
  refine R.get hc gf_X7_7_r dX7_puddleComes_41 (hR.1) rfl ?_
  refine R.iconst hc ic_0 dX7_puddleComes_44 ?_
  refine R.dup2 hc rfl rfl dX7_puddleComes_45 ?_
  refine R.ialdV hc hR.g0 (by omega) (by decide) dX7_puddleComes_46 (hN.1) ?_
  refine R.iconst hc ic_1 dX7_puddleComes_47 ?_
  first | refine R.iaddN hc dX7_puddleComes_48 ?_ | refine R.iadd hc dX7_puddleComes_48 ?_
  refine R.iastG hc dX7_puddleComes_49 hR.g0 (by omega) (by decide) (fun σ hX hE => ?_)
  have hR := hR.w0 hX hE
  have hF := hF.tr (hE.wid (by omega))
  refine R.aload_n (j := 0) (i := 0) hc rfl rfl dX7_puddleComes_50 ?_
  refine R.iconst hc ic_0 dX7_puddleComes_51 ?_
  refine R.putG hc gf_X7_109 dX7_puddleComes_52 hR.1 (Nat.le_of_ble_eq_true rfl) (fun _ => rfl) (fun _ => rfl) (fun σ hX hE => ?_)
  have hR := hR.p3 hX hE
  have hF := hF.tr (hE.wid (by omega))
  exact R.vret hc rfl dX7_puddleComes_55 ⟨rfl, rfl, _, hR, by rw [A2_s]; exact hN4, fun k hk => by rw [A2_n hk]; exact hBk k hk, hF⟩
set_option maxHeartbeats 4000000 in
set_option maxRecDepth 100000 in
theorem c_X7_personComes (l : Launch) (d : Nat) (X : Nat × (Nat → Int32)) (n : Nat) {σ : Wd} {A : Nat → Nat → Int32} {L : Nat → Nat → Int64} {I : Nat → Int32} (hR : RW σ A L I) {a : SA} {np nq hr dr : Nat} (hN : NowR (A 0) a np nq hr dr) (hW1 : np ≤ 7) (hq : nq < 6) (x y z : Nat) : CN l yX7_personComes cX7_personComes 5 none ((d + 1)) X n [.ref 42, .int (nI x), .int (nI y), .int (nI z)] σ (fun v σ' => v = none ∧ ∃ A', RW σ' A' L (un I 3 (nI 0)) ∧ NowR (A' 0) (a4 a nq x y z) np (nq + 1) hr dr ∧ (∀ k, k ≠ 0 → A' k = A k) ∧ Eqo 42 17 σ σ') := by
  refine CN.of (by decide) [some (.ref 42), some (.int (nI x)), some (.int (nI y)), some (.int (nI z)), none] (fun _ => Nat.le_of_ble_eq_true rfl) (fun _ => rfl) (fun cx hc => ?_)
  have hF : Eqo 42 17 σ σ := Eqo.rf
  refine R.aload_n (j := 0) (i := 0) hc rfl rfl dX7_personComes_0 ?_
  refine R.get hc gf_X7_7_r dX7_personComes_1 (hR.1) rfl ?_
  refine R.iconst hc ic_1 dX7_personComes_4 ?_
  refine R.ialdV hc hR.g0 (by omega) (by decide) dX7_personComes_5 (hN.2.1) ?_
  refine R.ist4 hc dX7_personComes_6 (by decide) rfl ?_
  refine R.aload_n (j := 0) (i := 0) hc rfl rfl dX7_personComes_8 ?_
  refine R.iload (i := 4) hc rfl dX7_personComes_9 ?_
  refine R.iload_n (j := 1) (i := 1) hc rfl rfl dX7_personComes_11 ?_
  refine R.iconst hc ic_0 dX7_personComes_12 ?_
  refine R.cVu hc m_X7_tells lk_X7_91 dX7_personComes_13 (c_X7_tells l d X n hR (p := nq) (by omega) (by omega) _) (hR.1) rfl rfl rfl (by omega) ⟨Nat.le_refl _, Nat.le_refl _⟩ (Nat.le_of_ble_eq_true rfl) (fun σ hX => ?_)
  obtain ⟨hR, hE⟩ := hX
  have hF := hF.tr hE
  refine R.aload_n (j := 0) (i := 0) hc rfl rfl dX7_personComes_16 ?_
  refine R.iload (i := 4) hc rfl dX7_personComes_17 ?_
  refine R.iload_n (j := 2) (i := 2) hc rfl rfl dX7_personComes_19 ?_
  refine R.iconst hc ic_1 dX7_personComes_20 ?_
  refine R.cVu hc m_X7_tells lk_X7_91 dX7_personComes_21 (c_X7_tells l d X n hR (p := nq) (by omega) (by omega) _) (hR.1) rfl rfl rfl (by omega) ⟨Nat.le_refl _, Nat.le_refl _⟩ (Nat.le_of_ble_eq_true rfl) (fun σ hX => ?_)
  obtain ⟨hR, hE⟩ := hX
  have hF := hF.tr hE
  refine R.aload_n (j := 0) (i := 0) hc rfl rfl dX7_personComes_24 ?_
  refine R.iload (i := 4) hc rfl dX7_personComes_25 ?_
  refine R.iload_n (j := 3) (i := 3) hc rfl rfl dX7_personComes_27 ?_
  refine R.iconst hc ic_2 dX7_personComes_28 ?_
  refine R.cVu hc m_X7_tells lk_X7_91 dX7_personComes_29 (c_X7_tells l d X n hR (p := nq) (by omega) (by omega) _) (hR.1) rfl rfl rfl (by omega) ⟨Nat.le_refl _, Nat.le_refl _⟩ (Nat.le_of_ble_eq_true rfl) (fun σ hX => ?_)
  obtain ⟨hR, hE⟩ := hX
  have hF := hF.tr hE
  refine R.aload_n (j := 0) (i := 0) hc rfl rfl dX7_personComes_32 ?_
  refine R.iload (i := 4) hc rfl dX7_personComes_33 ?_
  refine R.bipush hc bp_m4 dX7_personComes_35 ?_
  refine R.iconst hc ic_3 dX7_personComes_37 ?_
  refine R.cVu hc m_X7_tells lk_X7_91 dX7_personComes_38 (c_X7_tells l d X n hR (p := nq) (by omega) (by omega) _) (hR.1) rfl rfl rfl (by omega) ⟨Nat.le_refl _, Nat.le_refl _⟩ (Nat.le_of_ble_eq_true rfl) (fun σ hX => ?_)
  obtain ⟨hR, hE⟩ := hX
  have hF := hF.tr hE
  have hN3 : NowR (upd (upd (upd (upd (A 0) (25 + 4 * nq + 0) (nI x)) (25 + 4 * nq + 1) (nI y)) (25 + 4 * nq + 2) (nI z)) (25 + 4 * nq + 3) (-4)) (a4 a nq x y z) np nq hr dr := (((hN.wq hW1 (k := 0) (by omega)).wq hW1 (k := 1) (by omega)).wq hW1 (k := 2) (by omega)).w6 hW1 (x := 0)
  have hZ : ∀ k, k < 3 → (upd (upd (upd (upd (A 0) (25 + 4 * nq + 0) (nI x)) (25 + 4 * nq + 1) (nI y)) (25 + 4 * nq + 2) (nI z)) (25 + 4 * nq + 3) (-4)) (25 + 4 * nq + k) = nI (a4 a nq x y z (3 + k) nq) := by
    intro k hk
    rcases (by omega : k = 0 ∨ k = 1 ∨ k = 2) with rfl | rfl | rfl
    · rw [pk_un (by omega), pk_un (by omega), pk_un (by omega), pk_us]; simp [a4, a2]
    · rw [pk_un (by omega), pk_un (by omega), pk_us]; simp [a4, a2]
    · rw [pk_un (by omega), pk_us]; simp [a4, a2]
  have hN4 := hN3.nq1 hq hZ (by rw [pk_us]; simp [a4, a2, cI])
  obtain ⟨B, hB⟩ : ∃ w, w = A2 (A2 (A2 (A2 A 0 (25 + 4 * nq + 0) (nI x)) 0 (25 + 4 * nq + 1) (nI y)) 0 (25 + 4 * nq + 2) (nI z)) 0 (25 + 4 * nq + 3) (-4) := ⟨_, rfl⟩
  have hB0 : B 0 = (upd (upd (upd (upd (A 0) (25 + 4 * nq + 0) (nI x)) (25 + 4 * nq + 1) (nI y)) (25 + 4 * nq + 2) (nI z)) (25 + 4 * nq + 3) (-4)) := by rw [hB, A2_s, A2_s, A2_s, A2_s]
  have hBk : ∀ k, k ≠ 0 → B k = A k := fun k hk => by rw [hB, A2_n hk, A2_n hk, A2_n hk, A2_n hk]
  rw [← hB] at hR
  rw [← hB0] at hN3 hN4
  have hN := hN3
  refine R.aload_n (j := 0) (i := 0) hc rfl rfl dX7_personComes_41 ?_
  refine R.get hc gf_X7_7_r dX7_personComes_42 (hR.1) rfl ?_
  refine R.iconst hc ic_1 dX7_personComes_45 ?_
  refine R.dup2 hc rfl rfl dX7_personComes_46 ?_
  refine R.ialdV hc hR.g0 (by omega) (by decide) dX7_personComes_47 (hN.2.1) ?_
  refine R.iconst hc ic_1 dX7_personComes_48 ?_
  first | refine R.iaddN hc dX7_personComes_49 ?_ | refine R.iadd hc dX7_personComes_49 ?_
  refine R.iastG hc dX7_personComes_50 hR.g0 (by omega) (by decide) (fun σ hX hE => ?_)
  have hR := hR.w0 hX hE
  have hF := hF.tr (hE.wid (by omega))
  refine R.aload_n (j := 0) (i := 0) hc rfl rfl dX7_personComes_51 ?_
  refine R.iconst hc ic_0 dX7_personComes_52 ?_
  refine R.putG hc gf_X7_109 dX7_personComes_53 hR.1 (Nat.le_of_ble_eq_true rfl) (fun _ => rfl) (fun _ => rfl) (fun σ hX hE => ?_)
  have hR := hR.p3 hX hE
  have hF := hF.tr (hE.wid (by omega))
  exact R.vret hc rfl dX7_personComes_56 ⟨rfl, rfl, _, hR, by rw [A2_s]; exact hN4, fun k hk => by rw [A2_n hk]; exact hBk k hk, hF⟩
/-- a place of what may be undone -/
def SlR (f g : Nat → Int32) (o : Nat) (u v : Int32) (P Q : Nat) : Prop := f o = u ∧ f (o + 1) = v ∧ (∀ j, j < P → f (o + 2 + j) = g (4 + 3 * j + 2)) ∧ ∀ j, j < Q → f (o + 9 + j) = g (25 + 4 * j + 1) ∧ f (o + 15 + j) = g (25 + 4 * j + 3)
theorem UdR.push {f f' g : Nat → Int32} {hs : List SN} {a : SA} {np nq hr dr : Nat} (h : UdR f hs np nq) (hN : NowR g a np nq hr dr) (hp : np ≤ 7) (hq : nq ≤ 6) (hl : hs.length ≤ 7) (e : ∀ j, j < 21 * hs.length → f' j = f j) (hS : SlR f' g (21 * hs.length) (nI hr) (nI dr) 7 6) : UdR f' ((hr, dr, a) :: hs) np nq := by
  intro i s hi
  cases i with
  | zero =>
    simp only [List.getElem?_cons_zero, Option.some.injEq] at hi
    subst hi
    rw [show ((hr, dr, a) :: hs).length - 1 - 0 = hs.length by simp]
    obtain ⟨h1, h2, h3, h4⟩ := hS
    exact ⟨h1, h2, fun p hp' => (h3 p (by omega)).trans (hN.p (by omega) hp'), fun q hq' => (h4 q (by omega)).1.trans (hN.q (k := 1) (by omega) hq'), fun q hq' => (h4 q (by omega)).2.trans (hN.c hq')⟩
  | succ i =>
    simp only [List.getElem?_cons_succ] at hi
    rw [show ((hr, dr, a) :: hs).length - 1 - (i + 1) = hs.length - 1 - i by simp only [List.length_cons]; omega]
    exact (h.ag (by omega) hp hq e) i s hi
theorem UdR.shift {f f' : Nat → Int32} {hs : List SN} {np nq : Nat} (h : UdR f hs np nq) (hl : hs.length = 8) (hp : np ≤ 7) (hq : nq ≤ 6) (e : ∀ j, j + 21 < 168 → f' j = f (j + 21)) : UdR f' (hs.take 7) np nq := by
  intro i s hi
  have hl2 : (hs.take 7).length = 7 := by rw [List.length_take]; omega
  rw [hl2]
  rw [List.getElem?_take] at hi
  split at hi
  · rename_i hi7
    have := h i s hi
    rw [hl] at this
    obtain ⟨h1, h2, h3, h4, h5⟩ := this
    refine ⟨?_, ?_, fun p hp' => ?_, fun q hq' => ?_, fun q hq' => ?_⟩
    · rw [e _ (by omega), show 21 * (7 - 1 - i) + 21 = 21 * (8 - 1 - i) by omega]; exact h1
    · rw [e _ (by omega), show 21 * (7 - 1 - i) + 1 + 21 = 21 * (8 - 1 - i) + 1 by omega]; exact h2
    · rw [e _ (by omega), show 21 * (7 - 1 - i) + 2 + p + 21 = 21 * (8 - 1 - i) + 2 + p by omega]; exact h3 p hp'
    · rw [e _ (by omega), show 21 * (7 - 1 - i) + 9 + q + 21 = 21 * (8 - 1 - i) + 9 + q by omega]; exact h4 q hq'
    · rw [e _ (by omega), show 21 * (7 - 1 - i) + 15 + q + 21 = 21 * (8 - 1 - i) + 15 + q by omega]; exact h5 q hq'
  · exact absurd hi (by simp)
abbrev NT (σ σ' : Wd) (A : Nat → Nat → Int32) (L : Nat → Nat → Int64) (I : Nat → Int32) (hs' : List SN) (np nq : Nat) : Prop := ∃ (A' : Nat → Nat → Int32) (I' : Nat → Int32), RW σ' A' L I' ∧ (∀ k, k ≠ 5 → A' k = A k) ∧ UdR (A' 5) hs' np nq ∧ I' 3 = nI hs'.length ∧ (∀ k, k ≠ 3 → I' k = I k) ∧ Eqo 42 17 σ σ'
set_option maxHeartbeats 4000000 in
set_option maxRecDepth 100000 in
theorem c_X7_notes (l : Launch) (d : Nat) (X : Nat × (Nat → Int32)) (n : Nat) {σ : Wd} {A : Nat → Nat → Int32} {L : Nat → Nat → Int64} {I : Nat → Int32} (hR : RW σ A L I) {a : SA} {np nq hr dr : Nat} (hN : NowR (A 0) a np nq hr dr) (hW : WF a np nq) {hs : List SN} (hU : UdR (A 5) hs np nq) (hI3 : I 3 = nI hs.length) (hl8 : hs.length ≤ 8) : CN l yX7_notes cX7_notes 3 none ((d + 2)) X n [.ref 42] σ (fun v σ' => v = none ∧ NT σ σ' A L I (remem hs (hr, dr, a)) np nq) := by
  refine CN.of (by decide) [some (.ref 42), none, none] (fun _ => Nat.le_of_ble_eq_true rfl) (fun _ => rfl) (fun cx hc => ?_)
  have hW1 := hW.1
  have hW2 := hW.2.1
  have hF : Eqo 42 17 σ σ := Eqo.rf
  obtain ⟨σ0, hσ0⟩ : ∃ z, z = σ := ⟨_, rfl⟩
  obtain ⟨A0, hA0⟩ : ∃ z, z = A := ⟨_, rfl⟩
  rw [← hσ0, ← hA0] at hc
  have hF : Eqo 42 17 σ0 σ := by rw [hσ0]; exact Eqo.rf
  rw [hA0] at hc
  rw [← hA0] at hc
  obtain ⟨I0, hI0⟩ : ∃ z, z = I := ⟨_, rfl⟩
  rw [← hI0] at hc
  have hN0 : NowR (A0 0) a np nq hr dr := by rw [hA0]; exact hN
  have st2 : ∀ (σ : Wd) (A : Nat → Nat → Int32) (I : Nat → Int32) (h : List SN) (v1 : Option Value), RW σ A L I → (∀ k, k ≠ 5 → A k = A0 k) → UdR (A 5) h np nq → I 3 = nI h.length → h.length ≤ 7 → remem hs (hr, dr, a) = (hr, dr, a) :: h → (∀ k, k ≠ 3 → I k = I0 k) → Eqo 42 17 σ0 σ → R cx 0 0 n σ 46 [some (.ref 42), v1, none] [] := by
    intro σ A I h v1 hR hFr hU hI3 hl7 hrem hIk hF
    rw [hrem] at hc
    have hN : NowR (A 0) a np nq hr dr := by rw [hFr 0 (by omega)]; exact hN0
    obtain ⟨f, hf⟩ : ∃ z, z = A 5 := ⟨_, rfl⟩
    obtain ⟨m, hm⟩ : ∃ z, z = h.length := ⟨_, rfl⟩
    rw [← hf] at hU
    rw [← hm] at hI3 hl7
    refine R.bipush hc bp_21 dX7_notes_46 ?_
    refine R.aload_n (j := 0) (i := 0) hc rfl rfl dX7_notes_48 ?_
    refine R.gtV hc gf_X7_109_r dX7_notes_49 hR.1 rfl (hI3) ?_
    first | refine R.imulN hc dX7_notes_52 ?_ | refine R.imul hc dX7_notes_52 ?_
    refine R.istn1 hc dX7_notes_53 (by decide) rfl ?_
    refine R.aload_n (j := 0) (i := 0) hc rfl rfl dX7_notes_54 ?_
    refine R.get hc gf_X7_25_r dX7_notes_55 (hR.1) rfl ?_
    refine R.iload_n (j := 1) (i := 1) hc rfl rfl dX7_notes_58 ?_
    refine R.aload_n (j := 0) (i := 0) hc rfl rfl dX7_notes_59 ?_
    refine R.get hc gf_X7_7_r dX7_notes_60 (hR.1) rfl ?_
    refine R.iconst hc ic_2 dX7_notes_63 ?_
    refine R.ialdV hc hR.g0 (by omega) (by decide) dX7_notes_64 (hN.2.2.1) ?_
    refine R.iastG hc dX7_notes_65 hR.g5 (by omega) (by decide) (fun σ hX hE => ?_)
    have hR := hR.w5 hX hE
    have hF := hF.tr (hE.wid (by omega))
    have hN : NowR (A2 A 5 (21 * m) (nI hr) 0) a np nq hr dr := by rw [A2_n (by omega)]; exact hN
    refine R.aload_n (j := 0) (i := 0) hc rfl rfl dX7_notes_66 ?_
    refine R.get hc gf_X7_25_r dX7_notes_67 (hR.1) rfl ?_
    refine R.iload_n (j := 1) (i := 1) hc rfl rfl dX7_notes_70 ?_
    refine R.iconst hc ic_1 dX7_notes_71 ?_
    first | refine R.iaddN hc dX7_notes_72 ?_ | refine R.iadd hc dX7_notes_72 ?_
    refine R.aload_n (j := 0) (i := 0) hc rfl rfl dX7_notes_73 ?_
    refine R.get hc gf_X7_7_r dX7_notes_74 (hR.1) rfl ?_
    refine R.iconst hc ic_3 dX7_notes_77 ?_
    refine R.ialdV hc hR.g0 (by omega) (by decide) dX7_notes_78 (hN.2.2.2.1) ?_
    refine R.iastG hc dX7_notes_79 hR.g5 (by omega) (by decide) (fun σ hX hE => ?_)
    have hR := hR.w5 hX hE
    have hF := hF.tr (hE.wid (by omega))
    obtain ⟨B, hB⟩ : ∃ z, z = A2 (A2 A 5 (21 * m) (nI hr)) 5 (21 * m + 1) (nI dr) := ⟨_, rfl⟩
    have hB5 : B 5 = upd (upd f (21 * m) (nI hr)) (21 * m + 1) (nI dr) := by rw [hB, A2_s, A2_s, hf]
    have hBk : ∀ k, k ≠ 5 → B k = A0 k := fun k hk => by rw [hB, A2_n hk, A2_n hk]; exact hFr k hk
    rw [← hB] at hR
    have e5 : ∀ j, j < 21 * m → B 5 j = f j := fun j hj => by rw [hB5, pk_un (by omega), pk_un (by omega)]
    have s5 : SlR (B 5) (A0 0) (21 * m) (nI hr) (nI dr) 0 0 := ⟨by rw [hB5, pk_un (by omega), pk_us], by rw [hB5, pk_us], fun j hj => absurd hj (by omega), fun j hj => absurd hj (by omega)⟩
    refine R.iconst hc ic_0 dX7_notes_80 ?_
    refine R.istn2 hc dX7_notes_81 (by decide) rfl ?_
    refine rl_down (P := fun p => ∀ (σ : Wd) (A : Nat → Nat → Int32), RW σ A L I → (∀ k, k ≠ 5 → A k = A0 k) → (∀ j, j < 21 * m → A 5 j = f j) → SlR (A 5) (A0 0) (21 * m) (nI hr) (nI dr) p 0 → Eqo 42 17 σ0 σ → R cx 0 0 n σ 82 [some (.ref 42), some (.int (nI (21 * m))), some (.int (nI p))] []) 7 (fun σ A hR hFr e5 s5 hF => ?_) (fun p hp ih σ A hR hFr e5 s5 hF => ?_) 0 (Nat.zero_le _) σ B hR hBk e5 s5 hF
    rotate_left
    · refine R.iload_n (j := 2) (i := 2) hc rfl rfl dX7_notes_82 ?_
      refine R.bipush hc bp_7 dX7_notes_83 ?_
      refine R.icmpN_ge (tgt := 109) hc dX7_notes_85 (by decide) (by omega) (by omega) (fun z => absurd z (by omega)) (fun _ => ?_)
      refine R.aload_n (j := 0) (i := 0) hc rfl rfl dX7_notes_88 ?_
      refine R.get hc gf_X7_25_r dX7_notes_89 (hR.1) rfl ?_
      refine R.iload_n (j := 1) (i := 1) hc rfl rfl dX7_notes_92 ?_
      refine R.iconst hc ic_2 dX7_notes_93 ?_
      first | refine R.iaddN hc dX7_notes_94 ?_ | refine R.iadd hc dX7_notes_94 ?_
      refine R.iload_n (j := 2) (i := 2) hc rfl rfl dX7_notes_95 ?_
      first | refine R.iaddN hc dX7_notes_96 ?_ | refine R.iadd hc dX7_notes_96 ?_
      refine R.aload_n (j := 0) (i := 0) hc rfl rfl dX7_notes_97 ?_
      refine R.iload_n (j := 2) (i := 2) hc rfl rfl dX7_notes_98 ?_
      refine R.cVr hc m_X7_deep lk_X7_78 dX7_notes_99 (c_X7_deep l d X n hR (by omega)) (hR.1) rfl rfl rfl (by omega) ⟨Nat.le_refl _, Nat.le_refl _⟩ (Nat.le_of_ble_eq_true rfl) ?_
      refine R.iastG hc dX7_notes_102 hR.g5 (by omega) (by decide) (fun σ hX hE => ?_)
      have hR := hR.w5 hX hE
      have hF := hF.tr (hE.wid (by omega))
      refine R.iinc2 hc dX7_notes_103 (iiN1 _) (by decide) rfl ?_
      refine R.goto (tgt := 82) hc dX7_notes_106 (by decide) ?_
      refine ih σ _ hR (fun k hk => by rw [A2_n hk]; exact hFr k hk) (fun j hj => by rw [A2_s, pk_un (by omega)]; exact e5 j hj) ?_ hF
      obtain ⟨s1, s2, s3, s4⟩ := s5
      rw [A2_s]
      refine ⟨by rw [pk_un (by omega)]; exact s1, by rw [pk_un (by omega)]; exact s2, fun j hj => ?_, fun j hj => absurd hj (by omega)⟩
      by_cases e : j = p
      · rw [e, pk_us, hFr 0 (by omega)]
      · rw [pk_un (by omega)]; exact s3 j (by omega)
    refine R.iload_n (j := 2) (i := 2) hc rfl rfl dX7_notes_82 ?_
    refine R.bipush hc bp_7 dX7_notes_83 ?_
    refine R.icmpN_ge (tgt := 109) hc dX7_notes_85 (by decide) (by omega) (by omega) (fun _ => ?_) (fun z => absurd (Nat.le_refl _) z)
    refine R.iconst hc ic_0 dX7_notes_109 ?_
    refine R.istn2 hc dX7_notes_110 (by decide) rfl ?_
    refine rl_down (P := fun p => ∀ (σ : Wd) (A : Nat → Nat → Int32), RW σ A L I → (∀ k, k ≠ 5 → A k = A0 k) → (∀ j, j < 21 * m → A 5 j = f j) → SlR (A 5) (A0 0) (21 * m) (nI hr) (nI dr) 7 p → Eqo 42 17 σ0 σ → R cx 0 0 n σ 111 [some (.ref 42), some (.int (nI (21 * m))), some (.int (nI p))] []) 6 (fun σ A hR hFr e5 s5 hF => ?_) (fun p hp ih σ A hR hFr e5 s5 hF => ?_) 0 (Nat.zero_le _) σ A hR hFr e5 s5 hF
    · refine R.iload_n (j := 2) (i := 2) hc rfl rfl dX7_notes_111 ?_
      refine R.bipush hc bp_6 dX7_notes_112 ?_
      refine R.icmpN_ge (tgt := 157) hc dX7_notes_114 (by decide) (by omega) (by omega) (fun _ => ?_) (fun z => absurd (Nat.le_refl _) z)
      refine R.aload_n (j := 0) (i := 0) hc rfl rfl dX7_notes_157 ?_
      refine R.dup hc rfl dX7_notes_158 ?_
      refine R.gtV hc gf_X7_109_r dX7_notes_159 hR.1 rfl (hI3) ?_
      refine R.iconst hc ic_1 dX7_notes_162 ?_
      first | refine R.iaddN hc dX7_notes_163 ?_ | refine R.iadd hc dX7_notes_163 ?_
      refine R.putG hc gf_X7_109 dX7_notes_164 hR.1 (Nat.le_of_ble_eq_true rfl) (fun _ => rfl) (fun _ => rfl) (fun σ hX hE => ?_)
      have hR := hR.p3 hX hE
      have hF := hF.tr (hE.wid (by omega))
      refine R.vret hc rfl dX7_notes_167 ⟨rfl, rfl, A, _, hR, hFr, ?_, ?_, fun k hk => ?_, hF⟩
      · rw [hm] at hl7 e5 s5
        exact hU.push hN0 hW1 hW2 hl7 e5 s5
      · show (if 3 = 3 then nI (m + 1) else _) = _
        rw [if_pos rfl, List.length_cons, hm]
      · show (if k = 3 then _ else I k) = _
        rw [if_neg hk]; exact hIk k hk
    · refine R.iload_n (j := 2) (i := 2) hc rfl rfl dX7_notes_111 ?_
      refine R.bipush hc bp_6 dX7_notes_112 ?_
      refine R.icmpN_ge (tgt := 157) hc dX7_notes_114 (by decide) (by omega) (by omega) (fun z => absurd z (by omega)) (fun _ => ?_)
      refine R.aload_n (j := 0) (i := 0) hc rfl rfl dX7_notes_117 ?_
      refine R.get hc gf_X7_25_r dX7_notes_118 (hR.1) rfl ?_
      refine R.iload_n (j := 1) (i := 1) hc rfl rfl dX7_notes_121 ?_
      refine R.bipush hc bp_9 dX7_notes_122 ?_
      first | refine R.iaddN hc dX7_notes_124 ?_ | refine R.iadd hc dX7_notes_124 ?_
      refine R.iload_n (j := 2) (i := 2) hc rfl rfl dX7_notes_125 ?_
      first | refine R.iaddN hc dX7_notes_126 ?_ | refine R.iadd hc dX7_notes_126 ?_
      refine R.aload_n (j := 0) (i := 0) hc rfl rfl dX7_notes_127 ?_
      refine R.iload_n (j := 2) (i := 2) hc rfl rfl dX7_notes_128 ?_
      refine R.iconst hc ic_1 dX7_notes_129 ?_
      refine R.cVr hc m_X7_ofPerson lk_X7_67 dX7_notes_130 (c_X7_ofPerson l (d + 1) X n hR (by omega) (by omega)) (hR.1) rfl rfl rfl (by omega) ⟨Nat.le_refl _, Nat.le_refl _⟩ (Nat.le_of_ble_eq_true rfl) ?_
      refine R.iastG hc dX7_notes_133 hR.g5 (by omega) (by decide) (fun σ hX hE => ?_)
      have hR := hR.w5 hX hE
      have hF := hF.tr (hE.wid (by omega))
      refine R.aload_n (j := 0) (i := 0) hc rfl rfl dX7_notes_134 ?_
      refine R.get hc gf_X7_25_r dX7_notes_135 (hR.1) rfl ?_
      refine R.iload_n (j := 1) (i := 1) hc rfl rfl dX7_notes_138 ?_
      refine R.bipush hc bp_15 dX7_notes_139 ?_
      first | refine R.iaddN hc dX7_notes_141 ?_ | refine R.iadd hc dX7_notes_141 ?_
      refine R.iload_n (j := 2) (i := 2) hc rfl rfl dX7_notes_142 ?_
      first | refine R.iaddN hc dX7_notes_143 ?_ | refine R.iadd hc dX7_notes_143 ?_
      refine R.aload_n (j := 0) (i := 0) hc rfl rfl dX7_notes_144 ?_
      refine R.iload_n (j := 2) (i := 2) hc rfl rfl dX7_notes_145 ?_
      refine R.iconst hc ic_3 dX7_notes_146 ?_
      refine R.cVr hc m_X7_ofPerson lk_X7_67 dX7_notes_147 (c_X7_ofPerson l (d + 1) X n hR (by omega) (by omega)) (hR.1) rfl rfl rfl (by omega) ⟨Nat.le_refl _, Nat.le_refl _⟩ (Nat.le_of_ble_eq_true rfl) ?_
      refine R.iastG hc dX7_notes_150 hR.g5 (by omega) (by decide) (fun σ hX hE => ?_)
      have hR := hR.w5 hX hE
      have hF := hF.tr (hE.wid (by omega))
      refine R.iinc2 hc dX7_notes_151 (iiN1 _) (by decide) rfl ?_
      refine R.goto (tgt := 111) hc dX7_notes_154 (by decide) ?_
      refine ih σ _ hR (fun k hk => by rw [A2_n hk, A2_n hk]; exact hFr k hk) (fun j hj => by rw [A2_s, pk_un (by omega), A2_s, pk_un (by omega)]; exact e5 j hj) ?_ hF
      obtain ⟨s1, s2, s3, s4⟩ := s5
      rw [A2_s, A2_s]
      refine ⟨by rw [pk_un (by omega), pk_un (by omega)]; exact s1, by rw [pk_un (by omega), pk_un (by omega)]; exact s2, fun j hj => by rw [pk_un (by omega), pk_un (by omega)]; exact s3 j hj, fun j hj => ?_⟩
      by_cases e : j = p
      · rw [e, pk_un (by omega), pk_us, pk_us, A2_n (by omega), hFr 0 (by omega)]; exact ⟨rfl, rfl⟩
      · rw [pk_un (by omega), pk_un (by omega), pk_un (by omega), pk_un (by omega)]; exact s4 j (by omega)
  refine R.aload_n (j := 0) (i := 0) hc rfl rfl dX7_notes_0 ?_
  refine R.gtV hc gf_X7_109_r dX7_notes_1 hR.1 rfl (hI3) ?_
  refine R.bipush hc bp_8 dX7_notes_4 ?_
  refine R.icmpN_ne (tgt := 46) hc dX7_notes_6 (by decide) (by omega) (by omega) (fun z => ?_) (fun z => ?_)
  · exact st2 σ A I hs none hR (fun k _ => by rw [hA0]) hU hI3 (by omega) (by rw [remem, List.take_of_length_le (by rw [List.length_cons]; omega)]) (fun k _ => by rw [hI0]) hF
  · refine R.bipush hc bp_21 dX7_notes_9 ?_
    refine R.istn1 hc dX7_notes_11 (by decide) rfl ?_
    refine rl_down (P := fun k => 21 ≤ k → ∀ (σ : Wd) (A : Nat → Nat → Int32), RW σ A L I → (∀ k, k ≠ 5 → A k = A0 k) → (∀ j, A 5 j = if j + 21 < k then A0 5 (j + 21) else A0 5 j) → Eqo 42 17 σ0 σ → R cx 0 0 n σ 12 [some (.ref 42), some (.int (nI k)), none] []) 168 (fun _ σ A hR hFr e5 hF => ?_) (fun k hk ih hk2 σ A hR hFr e5 hF => ?_) 21 (by omega) (Nat.le_refl _) σ A hR (fun k _ => by rw [hA0]) (fun j => by rw [if_neg (by omega), hA0]) hF
    · refine R.iload_n (j := 1) (i := 1) hc rfl rfl dX7_notes_12 ?_
      refine R.sipush hc sp_168 dX7_notes_13 ?_
      refine R.icmpN_ge (tgt := 40) hc dX7_notes_16 (by decide) (by omega) (by omega) (fun _ => ?_) (fun z => absurd (Nat.le_refl _) z)
      refine R.aload_n (j := 0) (i := 0) hc rfl rfl dX7_notes_40 ?_
      refine R.bipush hc bp_7 dX7_notes_41 ?_
      refine R.putG hc gf_X7_109 dX7_notes_43 hR.1 (Nat.le_of_ble_eq_true rfl) (fun _ => rfl) (fun _ => rfl) (fun σ hX hE => ?_)
      have hR := hR.p3 hX hE
      have hF := hF.tr (hE.wid (by omega))
      have hl7 : (hs.take 7).length = 7 := by rw [List.length_take]; omega
      refine st2 σ A _ (hs.take 7) _ hR hFr ?_ (by rw [hl7]; rfl) (by omega) (by rw [remem]; rfl) (fun k hk => ?_) hF
      · exact (show UdR (A0 5) hs np nq by rw [hA0]; exact hU).shift z hW1 hW2 (fun j hj => by rw [e5, if_pos hj])
      · show (if k = 3 then _ else I k) = _
        rw [if_neg hk, hI0]
    · refine R.iload_n (j := 1) (i := 1) hc rfl rfl dX7_notes_12 ?_
      refine R.sipush hc sp_168 dX7_notes_13 ?_
      refine R.icmpN_ge (tgt := 40) hc dX7_notes_16 (by decide) (by omega) (by omega) (fun z => absurd z (by omega)) (fun _ => ?_)
      refine R.aload_n (j := 0) (i := 0) hc rfl rfl dX7_notes_19 ?_
      refine R.get hc gf_X7_25_r dX7_notes_20 (hR.1) rfl ?_
      refine R.iload_n (j := 1) (i := 1) hc rfl rfl dX7_notes_23 ?_
      refine R.bipush hc bp_21 dX7_notes_24 ?_
      first | refine R.isubN hc (by omega) dX7_notes_26 ?_ | refine R.isub hc dX7_notes_26 ?_
      refine R.aload_n (j := 0) (i := 0) hc rfl rfl dX7_notes_27 ?_
      refine R.get hc gf_X7_25_r dX7_notes_28 (hR.1) rfl ?_
      refine R.iload_n (j := 1) (i := 1) hc rfl rfl dX7_notes_31 ?_
      refine R.iald hc hR.g5 (by omega) (by decide) dX7_notes_32 ?_
      refine R.iastG hc dX7_notes_33 hR.g5 (by omega) (by decide) (fun σ hX hE => ?_)
      have hR := hR.w5 hX hE
      have hF := hF.tr (hE.wid (by omega))
      refine R.iinc1 hc dX7_notes_34 (iiN1 _) (by decide) rfl ?_
      refine R.goto (tgt := 12) hc dX7_notes_37 (by decide) ?_
      refine ih (by omega) σ _ hR (fun k hk => by rw [A2_n hk]; exact hFr k hk) (fun j => ?_) hF
      rw [A2_s]
      by_cases e : j = k - 21
      · rw [e, pk_us, if_pos (by omega), e5, if_neg (by omega), show k - 21 + 21 = k by omega]
      · rw [pk_un e, e5]
        by_cases y : j + 21 < k
        · rw [if_pos y, if_pos (by omega)]
        · rw [if_neg y, if_neg (by omega)]
