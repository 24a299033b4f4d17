/-! what holds of every state that calls come to, kept by each of them -/
section WIK
variable {a a' : SA} {np nq np' nq' hr dr hr' dr' : Nat} {hs hs' : List SN} {im : IM} {tp : Nat → Nat} {tl : Nat} {ln sz : Nat → Nat}
theorem WI.st (h : WI a np nq hr dr hs im tp tl ln sz) (hW : WF a' np' nq') (hh : hr' ≤ 9999) (hd : dr' < 2147483648) (hH : WH hs' np' nq') : WI a' np' nq' hr' dr' hs' im tp tl ln sz := ⟨hW, hh, hd, hH, h.2.2.2.2⟩
theorem WH.nil : WH [] np nq := fun s h => by cases h
theorem WH.rem (h : WH hs np nq) (hW : WF a np nq) (hh : hr ≤ 9999) (hd : dr < 2147483648) : WH (remem hs (hr, dr, a)) np nq := by
  intro s hs9
  rcases List.mem_cons.mp (List.mem_of_mem_take hs9) with rfl | h9
  · exact ⟨hW, hh, hd⟩
  · exact h s h9
theorem WI.rem (h : WI a np nq hr dr hs im tp tl ln sz) (hW : WF a' np nq) : WI a' np nq hr dr (remem hs (hr, dr, a)) im tp tl ln sz := h.st hW h.2.1 h.2.2.1 (h.2.2.2.1.rem h.1 h.2.1 h.2.2.1)
theorem WF_add3 {x y z : Nat} (hW : WF a np nq) (hn : np < 7) (hx : x < 5) (hy : y < 8) (hz : z ≤ 60) : WF (a3 a np x y z) (np + 1) nq := by
  obtain ⟨h1, h2, h3, h4, h5⟩ := hW
  have e : ∀ k, 3 ≤ k → ∀ j, a3 a np x y z k j = a k j := fun k hk j => by rw [a3, a2_n (by omega), a2_n (by omega), a2_n (by omega)]
  refine ⟨by omega, h2, fun p hp => ?_, fun q hq => ?_, fun q q' hq hq' => ?_⟩
  · by_cases y9 : p = np
    · subst y9
      refine ⟨?_, ?_, ?_⟩
      · rw [a3, a2_n (by omega), a2_n (by omega), a2_s]; exact hx
      · rw [a3, a2_n (by omega), a2_s]; exact hy
      · rw [a3, a2_s]; exact hz
    · have e0 : ∀ k, a3 a np x y z k p = a k p := fun k => by rw [a3, a2_n (by omega), a2_n (by omega), a2_n (by omega)]
      rw [e0, e0, e0]
      exact h3 p (by omega)
  · rw [e 3 (by omega), e 4 (by omega), e 5 (by omega), e 6 (by omega)]
    obtain ⟨g1, g2, g3, g4⟩ := h4 q hq
    exact ⟨g1, g2, g3, by omega⟩
  · rw [e 6 (by omega), e 6 (by omega)]; exact h5 q q' hq hq'
theorem WF_add4 {x y z : Nat} (hW : WF a np nq) (hn : nq < 6) (hx : x < 8) (hy : y < 20000) (hz : 1 ≤ z ∧ z ≤ 30) : WF (a4 a nq x y z) np (nq + 1) := by
  obtain ⟨h1, h2, h3, h4, h5⟩ := hW
  have e : ∀ k, k < 3 → ∀ j, a4 a nq x y z k j = a k j := fun k hk j => by rw [a4, a2_n (by omega), a2_n (by omega), a2_n (by omega), a2_n (by omega)]
  have e1 : ∀ k j, j ≠ nq → a4 a nq x y z k j = a k j := fun k j hj => by rw [a4, a2_n (by omega), a2_n (by omega), a2_n (by omega), a2_n (by omega)]
  have e6 : a4 a nq x y z 6 nq = 0 := by rw [a4, a2_s]
  refine ⟨h1, by omega, fun p hp => ?_, fun q hq => ?_, fun q q' hq hq' e9 n9 => ?_⟩
  · rw [e 0 (by omega), e 1 (by omega), e 2 (by omega)]; exact h3 p hp
  · by_cases y9 : q = nq
    · subst y9
      refine ⟨?_, ?_, ?_, ?_⟩
      · rw [a4, a2_n (by omega), a2_n (by omega), a2_n (by omega), a2_s]; exact hx
      · rw [a4, a2_n (by omega), a2_n (by omega), a2_s]; exact hy
      · rw [a4, a2_n (by omega), a2_s]; exact hz
      · rw [e6]; omega
    · rw [e1 3 q y9, e1 4 q y9, e1 5 q y9, e1 6 q y9]; exact h4 q (by omega)
  · by_cases y1 : q = nq
    · subst y1; exact absurd e6 n9
    · by_cases y2 : q' = nq
      · subst y2; rw [e6] at e9; exact absurd e9 n9
      · rw [e1 6 q y1] at e9 n9
        rw [e1 6 q' y2] at e9
        exact h5 q q' (by omega) (by omega) e9 n9
theorem WI.puddle {x y z : Int32} (h : WI a np nq hr dr hs im tp tl ln sz) (hc : okP x y z = true ∧ np < 7) : WI (a3 a np (tN x) (tN y) (tN z)) (np + 1) nq hr dr [] im tp tl ln sz := by
  obtain ⟨hc, hn⟩ := hc
  simp only [okP, Bool.and_eq_true] at hc
  obtain ⟨j1, -, -, g1, e1⟩ := inR_of (by decide) (by decide) hc.1.1
  obtain ⟨j2, -, -, g2, e2⟩ := inR_of (by decide) (by decide) hc.1.2
  obtain ⟨j3, -, -, g3, e3⟩ := inR_of (by decide) (by decide) hc.2
  exact h.st (WF_add3 h.1 hn (by omega) (by omega) (by omega)) h.2.1 h.2.2.1 WH.nil
theorem WI.person {x y z : Int32} (h : WI a np nq hr dr hs im tp tl ln sz) (hc : okQ x y z = true ∧ nq < 6) : WI (a4 a nq (tN x) (tN y) (tN z)) np (nq + 1) hr dr [] im tp tl ln sz := by
  obtain ⟨hc, hn⟩ := hc
  simp only [okQ, Bool.and_eq_true] at hc
  obtain ⟨j1, -, -, g1, e1⟩ := inR_of (by decide) (by decide) hc.1.1
  obtain ⟨j2, -, -, g2, e2⟩ := inR_of (by decide) (by decide) hc.1.2
  obtain ⟨j3, -, g4, g3, e3⟩ := inR_of (by decide) (by decide) hc.2
  exact h.st (WF_add4 h.1 hn (by omega) (by omega) (by omega)) h.2.1 h.2.2.1 WH.nil
theorem WI.show {p s : Int32} (h : WI a np nq hr dr hs im tp tl ln sz) (hc : okS np p s = true) : WI (a2 a 1 (tN p) (tN s)) np nq hr dr hs im tp tl ln sz := by
  simp only [okS, Bool.and_eq_true] at hc
  obtain ⟨j1, -, -, g1, e1⟩ := inR_of (by decide) (by decide) hc.2
  exact h.st (WF_sight h.1 (by omega)) h.2.1 h.2.2.1 h.2.2.2.1
theorem WI.type {x : Int32} (h : WI a np nq hr dr hs im tp tl ln sz) (hc : inR x 32 126 = true ∧ tl < 90) : WI a np nq hr dr hs im (tpA tp tl (tN x)) (tl + 1) ln sz := by
  obtain ⟨j1, -, g0, g1, e1⟩ := inR_of (by decide) (by decide) hc.1
  refine ⟨h.1, h.2.1, h.2.2.1, h.2.2.2.1, h.2.2.2.2.1, ⟨by omega, fun i hi => ?_⟩, h.2.2.2.2.2.2⟩
  unfold tpA
  split
  · omega
  · exact h.2.2.2.2.2.1.2 i (by omega)
theorem pH_wh {cart : Bool} (hW : WF a np nq) (hd : dr < 2147483648) (hH : WH hs np nq) : ∀ k, hr + k ≤ 10000 → WH (pH cart np nq a hr dr hs k).2.2.2 np nq := by
  intro k
  induction k with
  | zero => intro _; exact hH
  | succ k ih =>
    intro hk
    have h1 := pH_hr cart np nq a hr dr hs k
    have h2 := pH_ok (cart := cart) (hr := hr) (hs := hs) hW hd k
    have h3 := ih (by omega)
    rw [pH]
    generalize pH cart np nq a hr dr hs k = s at *
    exact h3.rem h2.1 (by omega) h2.2
theorem WI.hours {cart : Bool} {w : Int32} (h : WI a np nq hr dr hs im tp tl ln sz) (hc : okH hr w = true) : WI (pH cart np nq a hr dr hs (tN w)).1 np nq (pH cart np nq a hr dr hs (tN w)).2.1 (pH cart np nq a hr dr hs (tN w)).2.2.1 (pH cart np nq a hr dr hs (tN w)).2.2.2 im tp tl ln sz := by
  simp only [okH, Bool.and_eq_true, decide_eq_true_eq] at hc
  have h2 := pH_ok (cart := cart) (hr := hr) (hs := hs) h.1 h.2.2.1 (tN w)
  exact h.st h2.1 (by rw [pH_hr]; exact hc.2) h2.2 (pH_wh h.1 h.2.2.1 h.2.2.2.1 _ (by omega))
theorem WI.later {p x : Int32} (h : WI a np nq hr dr hs im tp tl ln sz) (hc : okL a nq p x = true) : WI (a2 a 4 (tN p) (tN x)) np nq hr dr (remem hs (hr, dr, a)) im tp tl ln sz := by
  simp only [okL, Bool.and_eq_true] at hc
  obtain ⟨j1, -, -, g1, e1⟩ := inR_of (by decide) (by decide) hc.1.2
  exact h.rem (WF_comes h.1 (by omega))
theorem WI.send {q : Nat} (h : WI a np nq hr dr hs im tp tl ln sz) : WI (a2 a 6 q 0) np nq hr dr (remem hs (hr, dr, a)) im tp tl ln sz := h.rem (WF_claim h.1 (Nat.zero_le _) (fun p e => absurd e (by omega)))
theorem WF_back {s : SA} (hW : WF a np nq) (hS : WF s np nq) : WF (backA a s) np nq := by
  obtain ⟨h1, h2, h3, h4, h5⟩ := hW
  obtain ⟨-, -, s3, s4, s5⟩ := hS
  exact ⟨h1, h2, fun p hp => ⟨(h3 p hp).1, (h3 p hp).2.1, (s3 p hp).2.2⟩, fun q hq => ⟨(h4 q hq).1, (s4 q hq).2.1, (h4 q hq).2.2.1, (s4 q hq).2.2.2⟩, s5⟩
theorem WI.undo {s : SN} {t : List SN} (h : WI a np nq hr dr (s :: t) im tp tl ln sz) : WI (backA a s.2.2) np nq s.1 s.2.1 t im tp tl ln sz := by
  have h9 := h.2.2.2.1 s List.mem_cons_self
  exact h.st (WF_back h.1 h9.1) h9.2.1 h9.2.2 (fun s' hs' => h.2.2.2.1 s' (List.mem_cons_of_mem _ hs'))
theorem WI.seed {v : Int32} (h : WI a np nq hr dr hs im tp tl ln sz) (hc : ¬ v < 0) : WI a np nq hr (tN v) hs im tp tl ln sz := by
  obtain ⟨j, hj, rfl⟩ := nI_of hc
  exact h.st h.1 h.2.1 (by rw [tN_nI hj]; exact hj) h.2.2.2.1
theorem WI.image (h : WI a np nq hr dr hs im tp tl ln sz) : WI a np nq hr dr hs (some (a, np, nq, hr, dr, hs)) tp tl ln sz := ⟨h.1, h.2.1, h.2.2.1, h.2.2.2.1, fun q e => by cases e; exact ⟨h.1, h.2.1, h.2.2.1, h.2.2.2.1⟩, h.2.2.2.2.2⟩
theorem WI.restore {q : SA × Nat × Nat × Nat × Nat × List SN} (h : WI a np nq hr dr hs (some q) tp tl ln sz) : WI q.1 q.2.1 q.2.2.1 q.2.2.2.1 q.2.2.2.2.1 q.2.2.2.2.2 (some q) tp tl ln sz := by
  obtain ⟨g1, g2, g3, g4⟩ := h.2.2.2.2.1 q rfl
  exact h.st g1 g2 g3 g4
theorem WI.sheet {s l9 k : Int32} (h : WI a np nq hr dr hs im tp tl ln sz) (hc : okSh s l9 k = true) : WI a np nq hr dr hs im tp tl (un ln (tN s) (tN l9 + 1)) (un sz (tN s) (tN k)) := by
  simp only [okSh, Bool.and_eq_true, decide_eq_true_eq] at hc
  obtain ⟨⟨⟨c1, c2⟩, c3⟩, c4⟩ := hc
  obtain ⟨j1, -, g1, e1⟩ := inI_tN (by decide) c2
  obtain ⟨j, hj, rfl⟩ := nI_of c4
  have g3 := (nI_leI hj (by decide)).mp c3
  refine ⟨h.1, h.2.1, h.2.2.1, h.2.2.2.1, h.2.2.2.2.1, h.2.2.2.2.2.1, fun s' hs' => ?_⟩
  rw [tN_nI hj]
  have h9 := h.2.2.2.2.2.2 s' hs'
  unfold un
  split
  · exact ⟨by omega, g3⟩
  · exact h9
theorem WI.drop {s : Nat} (h : WI a np nq hr dr hs im tp tl ln sz) : WI a np nq hr dr hs im tp tl (un ln s 0) sz := by
  refine ⟨h.1, h.2.1, h.2.2.1, h.2.2.2.1, h.2.2.2.2.1, h.2.2.2.2.2.1, fun s' hs' => ?_⟩
  have h9 := h.2.2.2.2.2.2 s' hs'
  refine ⟨?_, h9.2⟩
  unfold un
  split
  · omega
  · exact h9.1
end WIK
/-! what is read is a street -/
theorem pudP_wf (tp : Nat → Nat) (tl : Nat) : ∀ j a k i q, i ≤ tl → (∀ p, p < k → a 0 p < 5 ∧ a 1 p < 8 ∧ a 2 p ≤ 60) → pudP tp tl j a k i = .inr q → ∀ p, p < q.2.1 → q.1 0 p < 5 ∧ q.1 1 p < 8 ∧ q.1 2 p ≤ 60 := by
  intro j
  induction j with
  | zero => intro a k i q hi ha h; rw [pudP] at h; cases h; exact ha
  | succ j ih =>
    intro a k i q hi ha h
    rw [pudP] at h
    have hs := sk_le (tp := tp) hi
    split at h
    · cases h; exact ha
    · rename_i hn
      have hx : (if k = 0 then i else sk tp tl i + 1) ≤ tl := by
        split
        · exact hi
        · rename_i hk
          have hb : takeB tp tl 44 i = true := by
            cases hz : takeB tp tl 44 i
            · exact absurd ⟨by omega, hz⟩ hn
            · rfl
          simp only [takeB, decide_eq_true_eq] at hb
          omega
      split at h
      · cases h
      · rename_i q1 h1
        have o1 := kindP_ok hx h1
        split at h
        · cases h
        · rename_i q2 h2
          have o2 := sightP_ok h2
          split at h
          · cases h
          · rename_i q3 h3
            have o3 := numP_ok h3
            refine ih _ _ _ _ o3.2.2 (fun p hp => ?_) h
            by_cases y : p = k
            · subst y
              refine ⟨?_, ?_, ?_⟩
              · rw [a3, a2_n (by omega), a2_n (by omega), a2_s]; exact o1.1
              · rw [a3, a2_n (by omega), a2_s]; exact o2.1
              · rw [a3, a2_s]; exact o3.2.1
            · have e0 : ∀ k', a3 a k q1.1 q2.1 q3.1 k' p = a k' p := fun k' => by rw [a3, a2_n (by omega), a2_n (by omega), a2_n (by omega)]
              rw [e0, e0, e0]
              exact ha p (by omega)
theorem peoP_wf (tp : Nat → Nat) (tl : Nat) : ∀ j a k i q, i ≤ tl → (∀ p, p < k → a 3 p < 8 ∧ a 4 p < 20000 ∧ (1 ≤ a 5 p ∧ a 5 p ≤ 30) ∧ a 6 p = 0) → peoP tp tl j a k i = .inr q → (∀ p, p < q.2.1 → q.1 3 p < 8 ∧ q.1 4 p < 20000 ∧ (1 ≤ q.1 5 p ∧ q.1 5 p ≤ 30) ∧ q.1 6 p = 0) ∧ ∀ k', k' < 3 → ∀ p, q.1 k' p = a k' p := by
  intro j
  induction j with
  | zero => intro a k i q hi ha h; rw [peoP] at h; cases h; exact ⟨ha, fun _ _ _ => rfl⟩
  | succ j ih =>
    intro a k i q hi ha h
    rw [peoP] at h
    have hs := sk_le (tp := tp) hi
    split at h
    · cases h; exact ⟨ha, fun _ _ _ => rfl⟩
    · rename_i hn
      split at h
      · cases h
      · rename_i q1 h1
        have o1 := sightP_ok h1
        split at h
        · cases h
        · rename_i q2 h2
          have o2 := behP_ok o1.2 (by omega) h2
          split at h
          · cases h
          · rename_i q3 h3
            have o3 := behP_ok o2.2.2 (by omega) h3
            have h9 := ih _ _ _ _ o3.2.2 (fun p hp => ?_) h
            · refine ⟨h9.1, fun k' hk' p => ?_⟩
              rw [h9.2 k' hk' p, a4, a2_n (by omega), a2_n (by omega), a2_n (by omega), a2_n (by omega)]
            · by_cases y : p = k
              · subst y
                refine ⟨?_, ?_, ?_, ?_⟩
                · rw [a4, a2_n (by omega), a2_n (by omega), a2_n (by omega), a2_s]; exact o1.1
                · rw [a4, a2_n (by omega), a2_n (by omega), a2_s]; omega
                · rw [a4, a2_n (by omega), a2_s]; exact ⟨o3.1, o3.2.1⟩
                · rw [a4, a2_s]
              · have e0 : ∀ k', a4 a k q1.1 q2.1 q3.1 k' p = a k' p := fun k' => by rw [a4, a2_n (by omega), a2_n (by omega), a2_n (by omega), a2_n (by omega)]
                rw [e0, e0, e0, e0]
                exact ha p (by omega)
theorem readP_wf {tp : Nat → Nat} {tl : Nat} {q : SA × Nat × Nat} (h : readP tp tl = .inr q) : WF q.1 q.2.1 q.2.2 := by
  unfold readP at h
  split at h
  · cases h
  · rename_i r hr
    have l1 := pudP_len tp tl 7 _ 0 0 r hr
    have l2 := pudP_ok tp tl 7 _ 0 0 r (Nat.zero_le _) hr
    have l3 := pudP_wf tp tl 7 _ 0 0 r (Nat.zero_le _) (fun p hp => absurd hp (by omega)) hr
    have hs := sk_le (tp := tp) l2
    split at h
    · rename_i hb
      simp only [takeB, decide_eq_true_eq] at hb
      split at h
      · cases h
      · rename_i t ht
        have m1 := peoP_len tp tl 6 _ 0 _ t ht
        have m2 := peoP_wf tp tl 6 _ 0 _ t (by omega) (fun p hp => absurd hp (by omega)) ht
        unfold finP at h
        split at h
        · cases h
        · cases h
          refine ⟨by show r.2.1 ≤ 7; omega, by show t.2.1 ≤ 6; omega, fun p hp => ?_, fun p hp => ?_, fun p p' hp hp' e n => ?_⟩
          · rw [m2.2 0 (by omega), m2.2 1 (by omega), m2.2 2 (by omega)]; exact l3 p hp
          · obtain ⟨g1, g2, g3, g4⟩ := m2.1 p hp
            exact ⟨g1, g2, g3, by rw [g4]; omega⟩
          · exact absurd (m2.1 p hp).2.2.2 n
    · unfold finP at h
      split at h
      · cases h
      · cases h
        exact ⟨by show r.2.1 ≤ 7; omega, Nat.zero_le _, fun p hp => l3 p hp, fun p hp => absurd hp (Nat.not_lt_zero _), fun p p' hp => absurd hp (Nat.not_lt_zero _)⟩
theorem WT.z {tp : Nat → Nat} : WT tp 0 := ⟨by omega, fun i hi => absurd hi (by omega)⟩
theorem WI.tz {a : SA} {np nq hr dr : Nat} {hs : List SN} {im : IM} {tp : Nat → Nat} {tl : Nat} {ln sz : Nat → Nat} (h : WI a np nq hr dr hs im tp tl ln sz) : WI a np nq hr dr hs im tp 0 ln sz := ⟨h.1, h.2.1, h.2.2.1, h.2.2.2.1, h.2.2.2.2.1, WT.z, h.2.2.2.2.2.2⟩
theorem WI.read {a : SA} {np nq hr dr : Nat} {hs : List SN} {im : IM} {tp : Nat → Nat} {tl : Nat} {ln sz : Nat → Nat} {q : SA × Nat × Nat} (h : WI a np nq hr dr hs im tp tl ln sz) (hq : readP tp tl = .inr q) : WI q.1 q.2.1 q.2.2 0 dr [] im tp 0 ln sz := h.tz.st (readP_wf hq) (by omega) h.2.2.1 WH.nil
/-! the pictures of both objects, over cells that are not theirs -/
theorem CA.ag {σ σ' : Wd} {a : SA} {np nq hr dr : Nat} {hs : List SN} {im : IM} {tp : Nat → Nat} {tl : Nat} {ln sz : Nat → Nat} {it : Nat → Nat → Int64} (h : CA σ a np nq hr dr hs im tp tl ln sz it) (e : ∀ j, j < 42 → σ' j = σ j) : CA σ' a np nq hr dr hs im tp tl ln sz it := by
  obtain ⟨c0, c1, c2, ⟨xa, xp, xq, xh, xd, c3⟩, c4, ⟨xl, c5⟩, c6, ⟨xf, xg, xT, c7⟩, ⟨yd, yc, yb, yn, ys, yl, ym, c8⟩⟩ := h
  exact ⟨(e 0 (by omega)).trans c0, c1.ag (fun j _ _ => e j (by omega)), c2.ag (fun j _ _ => e j (by omega)), ⟨_, _, _, _, _, c3.ag (fun j _ _ => e j (by omega))⟩, c4.ag (fun j _ _ => e j (by omega)), ⟨_, c5.ag (fun j _ _ => e j (by omega))⟩, c6.ag (fun j _ _ => e j (by omega)), ⟨_, _, _, c7.ag (fun j _ _ => e j (by omega))⟩, ⟨_, _, _, _, _, _, _, c8.ag (fun j _ _ => e j (by omega))⟩⟩
theorem RA.ag {σ σ' : Wd} {a : SA} {np nq hr dr : Nat} {hs : List SN} {im : IM} {tp : Nat → Nat} {tl : Nat} {ln sz : Nat → Nat} {it : Nat → Nat → Int64} (h : RA σ a np nq hr dr hs im tp tl ln sz it) (e : ∀ j, 42 ≤ j → j < 59 → σ' j = σ j) : RA σ' a np nq hr dr hs im tp tl ln sz it := by
  obtain ⟨A, L, I, hR, hS⟩ := h
  exact ⟨A, L, I, hR.ag e, hS⟩
theorem CA.obj {σ : Wd} {a : SA} {np nq hr dr : Nat} {hs : List SN} {im : IM} {tp : Nat → Nat} {tl : Nat} {ln sz : Nat → Nat} {it : Nat → Nat → Int64} (h : CA σ a np nq hr dr hs im tp tl ln sz it) : ∃ fs, σ 0 = some (.inr (6, fs)) := ⟨_, h.1⟩
theorem RA.obj {σ : Wd} {a : SA} {np nq hr dr : Nat} {hs : List SN} {im : IM} {tp : Nat → Nat} {tl : Nat} {ln sz : Nat → Nat} {it : Nat → Nat → Int64} (h : RA σ a np nq hr dr hs im tp tl ln sz it) : ∃ fs, σ 42 = some (.inr (7, fs)) := by
  obtain ⟨A, L, I, hR, hS⟩ := h
  exact ⟨_, hR.1⟩
/-- both objects in one state -/
def LI (σ : Wd) : Prop := ∃ (a : SA) (np nq hr dr : Nat) (hs : List SN) (im : IM) (tp : Nat → Nat) (tl : Nat) (ln sz : Nat → Nat) (it : Nat → Nat → Int64), CA σ a np nq hr dr hs im tp tl ln sz it ∧ RA σ a np nq hr dr hs im tp tl ln sz it ∧ WI a np nq hr dr hs im tp tl ln sz
theorem LI.of {σ1 σ2 : Wd} {a : SA} {np nq hr dr : Nat} {hs : List SN} {im : IM} {tp : Nat → Nat} {tl : Nat} {ln sz : Nat → Nat} {it : Nat → Nat → Int64} (h1 : CA σ1 a np nq hr dr hs im tp tl ln sz it) (h2 : RA σ2 a np nq hr dr hs im tp tl ln sz it) (hE : Eqo 42 17 σ1 σ2) (hI : WI a np nq hr dr hs im tp tl ln sz) : LI σ2 := ⟨_, _, _, _, _, _, _, _, _, _, _, _, h1.ag (fun j hj => hE j (by omega)), h2, hI⟩
theorem WI.new : WI (fun _ _ => 0) 0 0 0 1 [] none (fun _ => 0) 0 (fun _ => 0) (fun _ => 0) := ⟨⟨by omega, by omega, fun p hp => absurd hp (Nat.not_lt_zero _), fun p hp => absurd hp (Nat.not_lt_zero _), fun p q hp => absurd hp (Nat.not_lt_zero _)⟩, by omega, by omega, WH.nil, fun q e => (by cases e), WT.z, fun s hs => ⟨Nat.zero_le _, Nat.zero_le _⟩⟩
