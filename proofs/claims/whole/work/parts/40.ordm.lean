/-! what an order is worth, hour by hour -/
theorem a2_id {a : SA} {k j x : Nat} (h : a k j = x) : a2 a k j x = a := by
  funext k' j'
  by_cases e : k' = k ∧ j' = j
  · obtain ⟨rfl, rfl⟩ := e; rw [a2_s, h]
  · rw [a2_n e]
theorem dft_no {fit : Nat → Bool} {dep : Nat → Nat} : ∀ k, (∀ p, p < k → fit p = false) → dft fit dep k = 0 := by
  intro k
  induction k with
  | zero => intro _; rfl
  | succ k ih => intro h; rw [dft, h k (by omega), ih (fun p hp => h p (by omega))]; rfl
/-- only one comes just now -/
theorem lc_one {a : SA} {np nq h q0 : Nat} (hs : Stl a np nq h) (hq0 : q0 < nq) (h6 : a 6 q0 = 0) (h4 : a 4 q0 = h) (hn : ∀ q, q < nq → a 6 q = 0 → a 4 q ≤ h → q ≠ q0 → a 4 q < h) : ∀ k, k ≤ nq → lc a np nq h k = if q0 < k then a2 a 6 q0 (dft (fun p => fitB a (clS a nq) p q0 (a 2 p)) (a 2) np) else a := by
  intro k
  induction k with
  | zero => intro _; rw [if_neg (by omega)]; rfl
  | succ k ih =>
    intro hk
    rw [lc, ih (by omega)]
    rcases Nat.lt_trichotomy q0 k with y | y | y
    · rw [if_pos (show q0 < k from y), if_pos (show q0 < k + 1 by omega)]
      split
      · rename_i hc
        rw [a2_n (by omega)] at hc
        have hc4 := hc.2
        rw [a2_n (by omega)] at hc4
        have hlt := hn k (by omega) hc.1 hc4 (by omega)
        refine a2_id ?_
        rw [a2_n (by omega), hc.1]
        refine (dft_no _ (fun p hp => ?_)).symm
        have hz := hs k (by omega) hc.1 hlt p hp
        refine fitB_mono hz (a2_n (by omega)) (a2_n (by omega)) (a2_n (by omega)) (clS_mono (fun i hi hin => ?_)) ?_
        · by_cases e : i = q0
          · subst e; exact absurd h6 hin
          · exact a2_n (by omega)
        · rw [a2_n (by omega)]; exact Nat.le_refl _
      · rfl
    · subst y
      rw [if_neg (show ¬ q0 < q0 by omega), if_pos (show q0 < q0 + 1 by omega), if_pos (show a 6 q0 = 0 ∧ a 4 q0 ≤ h from ⟨h6, by omega⟩)]
    · rw [if_neg (show ¬ q0 < k by omega), if_neg (show ¬ q0 < k + 1 by omega)]
      split
      · rename_i hc
        have hlt := hn k (by omega) hc.1 hc.2 (by omega)
        refine a2_id ?_
        rw [hc.1]
        exact (dft_no _ (fun p hp => hs k (by omega) hc.1 hlt p hp)).symm
      · rfl
theorem clS_add {a : SA} {q0 D nq : Nat} (hq : q0 < nq) (h6 : a 6 q0 = 0) : clS (a2 a 6 q0 D) nq = if D = 0 then clS a nq else clS a nq ||| 2 ^ (D - 1) := by
  apply Nat.eq_of_testBit_eq
  intro p
  split
  · rename_i hD
    subst hD
    rw [a2_id h6]
  · rename_i hD
    rw [Nat.testBit_or, Nat.testBit_two_pow, Bool.eq_iff_iff, Bool.or_eq_true, clS_bit, clS_bit, decide_eq_true_eq]
    constructor
    · rintro ⟨q, h1, h2⟩
      by_cases e : q = q0
      · subst e; rw [a2_s] at h2; right; omega
      · rw [a2_n (by omega)] at h2; exact Or.inl ⟨q, h1, h2⟩
    · rintro (⟨q, h1, h2⟩ | h)
      · refine ⟨q, h1, ?_⟩
        by_cases e : q = q0
        · subst e; omega
        · rw [a2_n (by omega)]; exact h2
      · exact ⟨q0, hq, by rw [a2_s]; omega⟩
theorem bsC_add {a : SA} {q0 D nq : Nat} (hq : q0 < nq) (h6 : a 6 q0 = 0) (hn : nq ≤ 6) : pop (bsN (hasC (a2 a 6 q0 D)) nq) = if D = 0 then pop (bsN (hasC a) nq) else pop (bsN (hasC a) nq) + 1 := by
  split
  · rename_i hD; subst hD; rw [a2_id h6]
  · rename_i hD
    have hb : bsN (hasC (a2 a 6 q0 D)) nq = bsN (hasC a) nq ||| 2 ^ q0 := by
      apply Nat.eq_of_testBit_eq
      intro p
      rw [Nat.testBit_or, Nat.testBit_two_pow, bsN_bit, bsN_bit]
      by_cases e : p = q0
      · subst e; simp [hasC, a2_s, hD, hq]
      · simp [hasC, a2_n (show ¬ (6 = 6 ∧ p = q0) by omega), show ¬ q0 = p by omega]
    rw [hb]
    refine pop_add _ (Nat.lt_of_lt_of_le (bsN_lt _ _) (Nat.pow_le_pow_right (by omega) (show nq ≤ 7 by omega))) q0 (by omega) ?_
    rw [bsN_bit]; simp [hasC, h6]
theorem less_ext {a b : SA} {np hr p : Nat} (h0 : ∀ x, a 0 x = b 0 x) (h2 : ∀ x, a 2 x = b 2 x) : less a np hr p = less b np hr p := by
  unfold less nbd
  simp only [h0, h2]
theorem lessen_ext {a b : SA} {np hr : Nat} (h0 : ∀ x, a 0 x = b 0 x) (h2 : ∀ x, a 2 x = b 2 x) (p : Nat) : lessen a np hr 2 p = lessen b np hr 2 p := by
  unfold lessen
  simp only [h2, less_ext h0 h2]
/-- all come by this order -/
def cmA (a : SA) (o : Nat → Nat) (hr : Nat) : Nat → SA
  | 0 => a
  | k + 1 => a2 (cmA a o hr k) 4 (o k) (hr + k)
theorem cmA_o {a : SA} {o : Nat → Nat} {hr : Nat} : ∀ k i x, i ≠ 4 → cmA a o hr k i x = a i x := by
  intro k
  induction k with
  | zero => intro i x _; rfl
  | succ k ih => intro i x h; rw [cmA, a2_n (by omega)]; exact ih i x h
theorem cmA_4 {a : SA} {o : Nat → Nat} {hr m : Nat} (hi : ∀ i j, i < m → j < m → o i = o j → i = j) : ∀ k, k ≤ m → ∀ j, j < k → cmA a o hr k 4 (o j) = hr + j := by
  intro k
  induction k with
  | zero => intro _ j hj; omega
  | succ k ih =>
    intro hk j hj
    rw [cmA]
    by_cases e : j = k
    · rw [e, a2_s]
    · rw [a2_n (fun y => e (hi j k (by omega) (by omega) y.2))]; exact ih (by omega) j (by omega)
theorem WF_cmA {a : SA} {o : Nat → Nat} {np nq hr : Nat} (hW : WF a np nq) (hh : hr ≤ 9999) : ∀ k, k ≤ 6 → WF (cmA a o hr k) np nq := by
  intro k
  induction k with
  | zero => intro _; exact hW
  | succ k ih => intro hk; exact WF_comes (ih (by omega)) (by omega)
theorem sub_pop : ∀ T, T < 64 → ∀ W, W < 64 → T &&& W = T → pop T = pop W → T = W := by decide +kernel
/-- the set of the first k -/
def stO (o : Nat → Nat) : Nat → Nat
  | 0 => 0
  | k + 1 => stO o k ||| 2 ^ o k
theorem stO_bit {o : Nat → Nat} (p : Nat) : ∀ k, (stO o k).testBit p = true ↔ ∃ j, j < k ∧ o j = p := by
  intro k
  induction k with
  | zero => simp [stO]
  | succ k ih =>
    rw [stO, Nat.testBit_or, Bool.or_eq_true, ih, Nat.testBit_two_pow, decide_eq_true_eq]
    constructor
    · rintro (⟨j, h1, h2⟩ | h)
      · exact ⟨j, by omega, h2⟩
      · exact ⟨k, by omega, h⟩
    · rintro ⟨j, h1, h2⟩
      by_cases e : j = k
      · subst e; exact Or.inr h2
      · exact Or.inl ⟨j, by omega, h2⟩
theorem stO_lt {o : Nat → Nat} {b : Nat} : ∀ k, (∀ j, j < k → o j < b) → stO o k < 2 ^ b := by
  intro k
  induction k with
  | zero => intro _; exact Nat.two_pow_pos b
  | succ k ih => intro h; exact Nat.or_lt_two_pow (ih (fun j hj => h j (by omega))) (Nat.pow_lt_pow_right (by omega) (h k (by omega)))
theorem stO_pop {o : Nat → Nat} : ∀ k, (∀ j, j < k → o j < 7) → (∀ i j, i < k → j < k → o i = o j → i = j) → pop (stO o k) = k := by
  intro k
  induction k with
  | zero => intro _ _; rw [stO]; decide
  | succ k ih =>
    intro h hi
    rw [stO, pop_add _ (stO_lt (b := 7) k (fun j hj => h j (by omega))) (o k) (h k (by omega)), ih (fun j hj => h j (by omega)) (fun i j h1 h2 => hi i j (by omega) (by omega))]
    cases y : (stO o k).testBit (o k)
    · rfl
    · obtain ⟨j, h1, h2⟩ := (stO_bit _ k).mp y
      have := hi j k (by omega) (by omega) h2
      omega
theorem bit_lt {W b q : Nat} (hW : W < 2 ^ b) (h : W.testBit q = true) : q < b := by
  rcases Nat.lt_or_ge q b with y | y
  · exact y
  · rw [Nat.testBit_lt_two_pow (Nat.lt_of_lt_of_le hW (Nat.pow_le_pow_right (by omega) y))] at h
    exact absurd h (by decide)
theorem Prm.onto {W : Nat} {o : Nat → Nat} (hW : W < 2 ^ 6) (h : Prm W (pop W) o) {q : Nat} (hq : W.testBit q = true) : ∃ j, j < pop W ∧ o j = q := by
  have hlt : ∀ j, j < pop W → o j < 6 := fun j hj => bit_lt hW (h.1 j hj)
  have e : stO o (pop W) = W := by
    refine sub_pop _ (stO_lt (b := 6) _ hlt) W hW ?_ (stO_pop _ (fun j hj => by have := hlt j hj; omega) h.2)
    apply Nat.eq_of_testBit_eq
    intro p
    rw [Nat.testBit_and]
    cases y : (stO o (pop W)).testBit p
    · rfl
    · obtain ⟨j, h1, h2⟩ := (stO_bit p _).mp y
      rw [← h2, h.1 j h1]; rfl
  rw [← e] at hq
  exact (stO_bit q _).mp hq
theorem vlo_stop {a : SA} {np w : Nat} {dep : Nat → Nat → Nat} {o : Nat → Nat} {s0 : Nat × Nat} : ∀ k, vlo (fndS a np w dep) o s0 (w + k) = vlo (fndS a np w dep) o s0 w := by
  intro k
  induction k with
  | zero => rfl
  | succ k ih => rw [← Nat.add_assoc, vlo, if_pos (by rw [fndS, if_neg (by omega)]), ih]
/-- an order is worth as many as have claimed behind the hours -/
theorem ord_val {a : SA} {np nq hr w : Nat} {o : Nat → Nat} (hW : WF a np nq) (hp : Prm (wtS a nq) (pop (wtS a nq)) o) : pop (bsN (hasC (hoursN (cmA a o hr (pop (wtS a nq))) np nq hr w)) nq) = ordV a np nq hr w o := by
  have hq6 := hW.2.1
  obtain ⟨m, hm⟩ : ∃ m, m = pop (wtS a nq) := ⟨_, rfl⟩
  obtain ⟨b, hb⟩ : ∃ b, b = cmA a o hr m := ⟨_, rfl⟩
  obtain ⟨V, hV⟩ : ∃ V, V = vlo (fndS a np w (fun k p => lsN a np hr k 2 p)) o (clS a nq, pop (bsN (hasC a) nq)) := ⟨_, rfl⟩
  have hbo : ∀ i x, i ≠ 4 → b i x = a i x := fun i x h => by rw [hb]; exact cmA_o m i x h
  have hop : ∀ j, j < m → o j < nq ∧ a 6 (o j) = 0 ∧ b 4 (o j) = hr + j := by
    intro j hj
    have h1 := hp.1 j (by omega)
    rw [wtS_bit hq6] at h1
    simp only [Bool.and_eq_true, decide_eq_true_eq, Bool.not_eq_true', hasC, bne_eq_false_iff_eq] at h1
    exact ⟨h1.1, h1.2, by rw [hb]; exact cmA_4 (by rw [hm]; exact hp.2) m (Nat.le_refl _) j hj⟩
  have hon : ∀ q, q < nq → a 6 q = 0 → ∃ j, j < m ∧ o j = q := by
    intro q hq h6
    rw [hm]
    refine hp.onto (wtS_lt hq6) ?_
    rw [wtS_bit hq6]
    simp [hq, hasC, h6]
  have inv : ∀ L, L ≤ w → (∀ p, hoursN b np nq hr L 2 p = lsN a np hr L 2 p) ∧ (∀ i x, i ≠ 2 → i ≠ 6 → hoursN b np nq hr L i x = b i x) ∧ clS (hoursN b np nq hr L) nq = (V (min L m)).1 ∧ pop (bsN (hasC (hoursN b np nq hr L)) nq) = (V (min L m)).2 ∧ (∀ j, L ≤ j → j < m → hoursN b np nq hr L 6 (o j) = 0) ∧ Stl (hoursN b np nq hr L) np nq (hr + L) ∧ (∀ q, a 6 q ≠ 0 → hoursN b np nq hr L 6 q ≠ 0) := by
    intro L
    induction L with
    | zero =>
      intro _
      have e6 : ∀ x, b 6 x = a 6 x := fun x => hbo 6 x (by omega)
      refine ⟨fun p => hbo 2 p (by omega), fun i x _ _ => rfl, ?_, ?_, fun j _ hj => ?_, ?_, fun q hq => ?_⟩
      · rw [Nat.zero_min, hV]; exact clS_ext nq (fun q _ => e6 q)
      · rw [Nat.zero_min, hV]
        show pop (bsN (hasC b) nq) = pop (bsN (hasC a) nq)
        rw [bsN_ext nq (fun i _ => show hasC b i = hasC a i by unfold hasC; rw [e6])]
      · show b 6 (o j) = 0
        rw [e6]; exact (hop j hj).2.1
      · intro q hq h6 h4
        exfalso
        have h6 : b 6 q = 0 := h6
        have h4 : b 4 q < hr + 0 := h4
        rw [e6] at h6
        obtain ⟨j, h1, h2⟩ := hon q hq h6
        rw [← h2, (hop j h1).2.2] at h4
        omega
      · show b 6 q ≠ 0
        rw [e6]; exact hq
    | succ L ih =>
      intro hL
      obtain ⟨i1, i2, i3, i4, i5, i6, i7⟩ := ih (by omega)
      have hst : Stl (hoursN b np nq hr (L + 1)) np nq (hr + (L + 1)) := by rw [hoursN]; exact hour_stl
      rw [hoursN] at hst ⊢
      obtain ⟨c, hc⟩ : ∃ c, c = hoursN b np nq hr L := ⟨_, rfl⟩
      rw [← hc] at i1 i2 i3 i4 i5 i6 i7 hst ⊢
      have hun : ∀ q, q < nq → c 6 q = 0 → ∃ j, j < m ∧ o j = q ∧ c 4 q = hr + j := by
        intro q hq h6
        have ha6 : a 6 q = 0 := by
          rcases Nat.eq_zero_or_pos (a 6 q) with y | y
          · exact y
          · exact absurd h6 (i7 q (by omega))
        obtain ⟨j, h1, h2⟩ := hon q hq ha6
        exact ⟨j, h1, h2, by rw [i2 4 q (by omega) (by omega), ← h2]; exact (hop j h1).2.2⟩
      have fin : ∀ c', lc c np nq (hr + L) nq = c' → (∀ i x, i ≠ 6 → c' i x = c i x) → clS c' nq = (V (min (L + 1) m)).1 → pop (bsN (hasC c') nq) = (V (min (L + 1) m)).2 → (∀ j, L + 1 ≤ j → j < m → c' 6 (o j) = 0) → (∀ q, a 6 q ≠ 0 → c' 6 q ≠ 0) → (∀ p, hourS c np nq (hr + L) 2 p = lsN a np hr (L + 1) 2 p) ∧ (∀ i x, i ≠ 2 → i ≠ 6 → hourS c np nq (hr + L) i x = b i x) ∧ clS (hourS c np nq (hr + L)) nq = (V (min (L + 1) m)).1 ∧ pop (bsN (hasC (hourS c np nq (hr + L))) nq) = (V (min (L + 1) m)).2 ∧ (∀ j, L + 1 ≤ j → j < m → hourS c np nq (hr + L) 6 (o j) = 0) ∧ Stl (hourS c np nq (hr + L)) np nq (hr + (L + 1)) ∧ (∀ q, a 6 q ≠ 0 → hourS c np nq (hr + L) 6 q ≠ 0) := by
        intro c' e h1 h3 h4 h5 h7
        unfold hourS at hst ⊢
        rw [e] at hst ⊢
        refine ⟨fun p => ?_, fun i x hi2 hi6 => ?_, ?_, ?_, fun j hj hjm => ?_, hst, fun q hq => ?_⟩
        · rw [lsN]
          refine lessen_ext (fun x => ?_) (fun x => ?_) p
          · rw [h1 0 x (by omega), i2 0 x (by omega) (by omega), hbo 0 x (by omega), lsN_other L 0 x (by omega)]
          · rw [h1 2 x (by omega), i1 x]
        · rw [lessen_other hi2, h1 i x hi6, i2 i x hi2 hi6]
        · rw [← h3]; exact clS_ext nq (fun q _ => lessen_other (by omega))
        · rw [← h4, bsN_ext nq (fun i _ => show hasC (lessen c' np (hr + L)) i = hasC c' i by unfold hasC; rw [lessen_other (by omega)])]
        · rw [lessen_other (by omega)]; exact h5 j hj hjm
        · rw [lessen_other (by omega)]; exact h7 q hq
      by_cases hLm : L < m
      · obtain ⟨g1, g2, g3⟩ := hop L hLm
        have c6 : c 6 (o L) = 0 := i5 L (Nat.le_refl _) hLm
        have c4 : c 4 (o L) = hr + L := by rw [i2 4 _ (by omega) (by omega)]; exact g3
        have hone := lc_one i6 g1 c6 c4 (fun q hq h6 h4 hne => by
          obtain ⟨j, h1, h2, h3⟩ := hun q hq h6
          rw [h3] at h4 ⊢
          rcases Nat.lt_or_ge j L with y | y
          · omega
          · exfalso
            apply hne
            rw [← h2, show j = L by omega]) nq (Nat.le_refl _)
        rw [if_pos g1] at hone
        have hD : dft (fun p => fitB c (clS c nq) p (o L) (c 2 p)) (c 2) np = fndS a np w (fun k p => lsN a np hr k 2 p) L (o L) (V L).1 := by
          rw [fndS, if_pos (by omega)]
          have e1 : (fun p => fitB c (clS c nq) p (o L) (c 2 p)) = (fun p => fitB a (V L).1 p (o L) (lsN a np hr L 2 p)) := by
            funext p
            rw [i3, Nat.min_eq_left (by omega)]
            unfold fitB
            rw [i1 p, i2 1 p (by omega) (by omega), i2 3 _ (by omega) (by omega), i2 5 _ (by omega) (by omega), hbo 1 p (by omega), hbo 3 _ (by omega), hbo 5 _ (by omega)]
          rw [e1, show c 2 = (fun p => lsN a np hr L 2 p) from funext i1]
        rw [hD] at hone
        have hmin : min (L + 1) m = L + 1 := Nat.min_eq_left (by omega)
        have hmin0 : min L m = L := Nat.min_eq_left (by omega)
        rw [hmin0] at i3 i4
        obtain ⟨D, hDD⟩ : ∃ D, D = fndS a np w (fun k p => lsN a np hr k 2 p) L (o L) (V L).1 := ⟨_, rfl⟩
        rw [← hDD] at hone
        have hV1 : V (L + 1) = if D = 0 then V L else ((V L).1 ||| 2 ^ (D - 1), (V L).2 + 1) := by rw [hV, vlo, ← hV, ← hDD]
        refine fin _ hone (fun i x hi => a2_n (by omega)) ?_ ?_ (fun j hj hjm => ?_) (fun q hq => ?_)
        · rw [clS_add g1 c6, hmin, hV1, i3]
          split <;> rfl
        · rw [bsC_add g1 c6 hq6, hmin, hV1, i4]
          split <;> rfl
        · rw [a2_n]
          · exact i5 j (by omega) hjm
          · rintro ⟨_, y⟩
            have := hp.2 j L (by omega) (by omega) y
            omega
        · by_cases e : q = o L
          · subst e; exact absurd g2 hq
          · rw [a2_n (by omega)]; exact i7 q hq
      · have hno := stl_lc i6 (fun q hq h6 => by
          obtain ⟨j, h1, h2, h3⟩ := hun q hq h6
          omega) nq (Nat.le_refl _)
        have e1 : min (L + 1) m = min L m := by rw [Nat.min_eq_right (by omega), Nat.min_eq_right (by omega)]
        exact fin c hno (fun i x _ => rfl) (by rw [e1]; exact i3) (by rw [e1]; exact i4) (fun j hj hjm => absurd hjm (by omega)) i7
  have h9 := (inv w (Nat.le_refl _)).2.2.2.1
  rw [← hm, ← hb, h9]
  unfold ordV
  rw [← hV, ← hm]
  by_cases hwm : w ≤ m
  · rw [Nat.min_eq_left hwm]
    have := vlo_stop (a := a) (np := np) (w := w) (dep := fun k p => lsN a np hr k 2 p) (o := o) (s0 := (clS a nq, pop (bsN (hasC a) nq))) (m - w)
    rw [← hV, show w + (m - w) = m by omega] at this
    rw [this]
  · rw [Nat.min_eq_right (by omega)]
