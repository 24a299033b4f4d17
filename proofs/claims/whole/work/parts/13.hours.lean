theorem dft_zero {fit : Nat → Bool} {dep : Nat → Nat} : ∀ k, dft fit dep k = 0 → ∀ p, p < k → fit p = false := by
  intro k
  induction k with
  | zero => intro _ p hp; omega
  | succ k ih =>
    intro h p hp
    rw [dft] at h
    split at h
    · omega
    · rename_i hc
      by_cases e : p = k
      · subst e
        cases hf : fit p
        · rfl
        · simp [hf, h] at hc
      · exact ih h p (by omega)
theorem fitB_mono {a a' : SA} {T T' p q dep dep' : Nat} (h : fitB a T p q dep = false) (h1 : a' 1 p = a 1 p) (h3 : a' 3 q = a 3 q) (h5 : a' 5 q = a 5 q) (hT : T.testBit p = true → T'.testBit p = true) (hd : dep' ≤ dep) : fitB a' T' p q dep' = false := by
  cases hx : fitB a' T' p q dep'
  · rfl
  · simp only [fitB, Bool.and_eq_true, beq_iff_eq, decide_eq_true_eq, Bool.not_eq_true'] at hx
    have ht : T.testBit p = false := by
      cases hz : T.testBit p
      · rfl
      · rw [hT hz] at hx; exact absurd hx.2 (by decide)
    rw [h1, h3, h5] at hx
    have : fitB a T p q dep = true := by
      simp only [fitB, Bool.and_eq_true, beq_iff_eq, decide_eq_true_eq, Bool.not_eq_true']
      exact ⟨⟨hx.1.1, by omega⟩, ht⟩
    rw [this] at h
    exact absurd h (by decide)
/-- what an hour's claims leave alone -/
theorem lc_other {a : SA} {np nq hr : Nat} : ∀ q k j, ¬ (k = 6 ∧ j < q) → lc a np nq hr q k j = a k j := by
  intro q
  induction q with
  | zero => intro k j _; rfl
  | succ q ih =>
    intro k j h
    rw [lc]
    split
    · rw [a2_n (by omega)]; exact ih k j (by omega)
    · exact ih k j (by omega)
/-- a claim, once made, stays; those from person q on have none yet changed -/
theorem lc_kept {a : SA} {np nq hr : Nat} : ∀ q j, a 6 j ≠ 0 → lc a np nq hr q 6 j = a 6 j := by
  intro q
  induction q with
  | zero => intro j _; rfl
  | succ q ih =>
    intro j h
    rw [lc]
    split
    · rename_i hc
      by_cases e : j = q
      · subst e
        rw [ih j h] at hc
        exact absurd hc.1 h
      · rw [a2_n (by omega)]; exact ih j h
    · exact ih j h
theorem clS_mono {a a' : SA} {nq : Nat} (h : ∀ q, q < nq → a 6 q ≠ 0 → a' 6 q = a 6 q) {p : Nat} (hb : (clS a nq).testBit p = true) : (clS a' nq).testBit p = true := by
  obtain ⟨q, h1, h2⟩ := (clS_bit a p nq).mp hb
  exact (clS_bit a' p nq).mpr ⟨q, h1, by rw [h q h1 (by omega)]; exact h2⟩
/-- nobody who came before finds anything -/
def Stl (a : SA) (np nq hr : Nat) : Prop := ∀ q, q < nq → a 6 q = 0 → a 4 q < hr → ∀ p, p < np → fitB a (clS a nq) p q (a 2 p) = false
theorem lc_stl {a : SA} {np nq hr : Nat} : ∀ k, k ≤ nq → ∀ q, q < k → lc a np nq hr k 6 q = 0 → a 4 q ≤ hr → ∀ p, p < np → fitB (lc a np nq hr k) (clS (lc a np nq hr k) nq) p q (a 2 p) = false := by
  intro k
  induction k with
  | zero => intro _ q hq; omega
  | succ k ih =>
    intro hk q hq h0 h4 p hp
    rw [lc] at h0 ⊢
    split
    · rename_i hc
      rw [if_pos hc] at h0
      by_cases e : q = k
      · subst e
        rw [a2_s] at h0
        have hz := dft_zero _ h0 p hp
        rw [lc_other _ 2 p (by omega)] at hz
        refine fitB_mono hz (by rw [a2_n (by omega)]) (by rw [a2_n (by omega)]) (by rw [a2_n (by omega)]) (clS_mono (fun i hi hn => ?_)) (Nat.le_refl _)
        by_cases ei : i = q
        · subst ei; exact absurd hc.1 hn
        · rw [a2_n (by omega)]
      · rw [a2_n (by omega)] at h0
        have hz := ih (by omega) q (by omega) h0 h4 p hp
        refine fitB_mono hz (by rw [a2_n (by omega)]) (by rw [a2_n (by omega)]) (by rw [a2_n (by omega)]) (clS_mono (fun i hi hn => ?_)) (Nat.le_refl _)
        by_cases ei : i = k
        · subst ei; exact absurd hc.1 hn
        · rw [a2_n (by omega)]
    · rename_i hc
      rw [if_neg hc] at h0
      by_cases e : q = k
      · subst e
        exact absurd ⟨h0, by rw [lc_other _ 4 q (by omega)]; exact h4⟩ hc
      · exact ih (by omega) q (by omega) h0 h4 p hp
theorem lessen_other {a : SA} {np hr k j : Nat} (h : k ≠ 2) : lessen a np hr k j = a k j := by simp [lessen, h]
theorem lessen_le {a : SA} {np hr p : Nat} : lessen a np hr 2 p ≤ a 2 p := by
  simp only [lessen]
  split <;> omega
theorem clS_ext {a a' : SA} : ∀ nq, (∀ q, q < nq → a' 6 q = a 6 q) → clS a' nq = clS a nq := by
  intro nq
  induction nq with
  | zero => intro _; rfl
  | succ n ih => intro h; rw [clS, clS, ih (fun q hq => h q (by omega)), h n (by omega)]
theorem hour_stl {a : SA} {np nq hr : Nat} : Stl (hourS a np nq hr) np nq (hr + 1) := by
  intro q hq h0 h4 p hp
  unfold hourS at h0 h4 ⊢
  rw [lessen_other (by omega)] at h0 h4
  rw [lc_other _ 4 q (by omega)] at h4
  have hz := lc_stl nq (Nat.le_refl _) q hq h0 (by omega) p hp
  refine fitB_mono hz (lessen_other (by omega)) (lessen_other (by omega)) (lessen_other (by omega)) (clS_mono (fun i _ _ => lessen_other (by omega))) ?_
  rw [← lc_other (a := a) (np := np) (nq := nq) (hr := hr) nq 2 p (by omega)]
  exact lessen_le
theorem stl_lc {a : SA} {np nq hr : Nat} (hs : Stl a np nq hr) (hn : ∀ q, q < nq → a 6 q = 0 → a 4 q < hr) : ∀ k, k ≤ nq → lc a np nq hr k = a := by
  intro k
  induction k with
  | zero => intro _; rfl
  | succ k ih =>
    intro hk
    rw [lc, ih (by omega)]
    split
    · rename_i hc
      have hz : dft (fun p => fitB a (clS a nq) p k (a 2 p)) (a 2) np = 0 := by
        cases hd : dft (fun p => fitB a (clS a nq) p k (a 2 p)) (a 2) np with
        | zero => rfl
        | succ p =>
          have h1 := dft_fit _ _ hd
          have h2 := hs k (by omega) hc.1 (hn k (by omega) hc.1) p h1.1
          rw [h2] at h1
          exact absurd h1.2 (by decide)
      rw [hz]
      funext k' j'
      by_cases e : k' = 6 ∧ j' = k
      · obtain ⟨rfl, rfl⟩ := e
        rw [a2_s, hc.1]
      · rw [a2_n e]
    · rfl
theorem anyC_false {a : SA} {hr : Nat} : ∀ j q, anyC a hr j q = false → ∀ i, q ≤ i → i < q + j → a 6 i = 0 → a 4 i < hr := by
  intro j
  induction j with
  | zero => intro q _ i h1 h2; omega
  | succ j ih =>
    intro q h i h1 h2 h0
    rw [anyC, Bool.or_eq_false_iff] at h
    by_cases e : i = q
    · subst e
      have h3 := h.1
      simp [hasC, h0] at h3
      omega
    · exact ih (q + 1) h.2 i (by omega) (by omega) h0
/-- once settled, all stays -/
theorem stl_all {a : SA} {np nq hr m : Nat} (hs : Stl (hoursN a np nq hr m) np nq (hr + m)) (hn : ∀ q, q < nq → hoursN a np nq hr m 6 q = 0 → hoursN a np nq hr m 4 q < hr + m) : ∀ j, m ≤ j → (∀ q, hoursN a np nq hr j 6 q = hoursN a np nq hr m 6 q) ∧ (∀ q, hoursN a np nq hr j 4 q = hoursN a np nq hr m 4 q) ∧ Stl (hoursN a np nq hr j) np nq (hr + j) := by
  intro j hj
  obtain ⟨i, rfl⟩ : ∃ i, j = m + i := ⟨j - m, by omega⟩
  clear hj
  induction i with
  | zero => exact ⟨fun _ => rfl, fun _ => rfl, hs⟩
  | succ i ih =>
    obtain ⟨h1, h2, h3⟩ := ih
    have hl : lc (hoursN a np nq hr (m + i)) np nq (hr + (m + i)) nq = hoursN a np nq hr (m + i) := by
      refine stl_lc h3 (fun q hq h0 => ?_) nq (Nat.le_refl _)
      rw [h2 q]
      have := hn q hq (by rw [← h1 q]; exact h0)
      omega
    have he : hoursN a np nq hr (m + (i + 1)) = lessen (hoursN a np nq hr (m + i)) np (hr + (m + i)) := by
      show hourS (hoursN a np nq hr (m + i)) np nq (hr + (m + i)) = _
      unfold hourS
      rw [hl]
    refine ⟨fun q => ?_, fun q => ?_, ?_⟩
    · rw [he, lessen_other (by omega)]; exact h1 q
    · rw [he, lessen_other (by omega)]; exact h2 q
    · show Stl (hourS (hoursN a np nq hr (m + i)) np nq (hr + (m + i))) np nq (hr + (m + i) + 1)
      exact hour_stl
