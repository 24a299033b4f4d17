/-! orders of people: their ranks, their codes, what they are worth -/
def rk (W : Nat) : Nat → Nat
  | 0 => 0
  | q + 1 => rk W q + (if W.testBit q then 1 else 0)
/-- the code of the first L of an order -/
def cdo (ρ : Nat → Nat) (m : Nat) (o : Nat → Nat) : Nat → Nat
  | 0 => 0
  | L + 1 => cdo ρ m o L * m + ρ (o L)
/-- what is taken, and how many have, behind the first L -/
def vlo (fnd : Nat → Nat → Nat → Nat) (o : Nat → Nat) (s0 : Nat × Nat) : Nat → Nat × Nat
  | 0 => s0
  | L + 1 => if fnd L (o L) (vlo fnd o s0 L).1 = 0 then vlo fnd o s0 L else ((vlo fnd o s0 L).1 ||| 2 ^ (fnd L (o L) (vlo fnd o s0 L).1 - 1), (vlo fnd o s0 L).2 + 1)
def Prm (W m : Nat) (o : Nat → Nat) : Prop := (∀ j, j < m → W.testBit (o j) = true) ∧ ∀ i j, i < m → j < m → o i = o j → i = j
def Bst (W m : Nat) (val : (Nat → Nat) → Nat) (N : Nat) (bs : Nat → Nat) (mo : Nat) : Prop :=
  (∀ o, Prm W m o → cdo (rk W) m o m < N → val o < mo) ∧ (mo = 0 ∨ (Prm W m bs ∧ cdo (rk W) m bs m < N ∧ val bs + 1 = mo ∧ ∀ o, Prm W m o → cdo (rk W) m o m < cdo (rk W) m bs m → val o < val bs))
theorem rk_mono {W : Nat} : ∀ {a b : Nat}, a ≤ b → rk W a ≤ rk W b := by
  intro a b h
  obtain ⟨j, rfl⟩ : ∃ j, b = a + j := ⟨b - a, by omega⟩
  induction j with
  | zero => exact Nat.le_refl _
  | succ j ih =>
    have := ih (by omega)
    rw [← Nat.add_assoc, rk]
    omega
theorem rk_lt {W q q' : Nat} (h : q < q') (hb : W.testBit q = true) : rk W q < rk W q' := by
  have := rk_mono (W := W) (show q + 1 ≤ q' by omega)
  rw [rk, if_pos hb] at this
  omega
theorem rk_inj {W q q' : Nat} (h : W.testBit q = true) (h' : W.testBit q' = true) (e : rk W q = rk W q') : q = q' := by
  rcases Nat.lt_trichotomy q q' with y | y | y
  · have := rk_lt y h; omega
  · exact y
  · have := rk_lt y h'; omega
theorem rk_sel (W : Nat) : ∀ n j, j < rk W n → ∃ q, q < n ∧ W.testBit q = true ∧ rk W q = j := by
  intro n
  induction n with
  | zero => intro j h; rw [rk] at h; omega
  | succ n ih =>
    intro j h
    rw [rk] at h
    by_cases hj : j < rk W n
    · obtain ⟨q, h1, h2, h3⟩ := ih j hj
      exact ⟨q, by omega, h2, h3⟩
    · split at h
      · rename_i hb
        exact ⟨n, by omega, hb, by omega⟩
      · omega
theorem rk_pop : ∀ W, W < 64 → rk W 6 = pop W := by decide +kernel
theorem rk_top {W : Nat} : ∀ n k, W < 2 ^ n → rk W (n + k) = rk W n := by
  intro n k h
  induction k with
  | zero => rfl
  | succ k ih =>
    have h1 : W.testBit (n + k) = false := Nat.testBit_lt_two_pow (Nat.lt_of_lt_of_le h (Nat.pow_le_pow_right (by omega) (by omega)))
    rw [← Nat.add_assoc, rk, h1, ih]
    rfl
theorem cdo_ext {ρ : Nat → Nat} {m : Nat} {o o' : Nat → Nat} : ∀ L, (∀ i, i < L → o i = o' i) → cdo ρ m o L = cdo ρ m o' L := by
  intro L
  induction L with
  | zero => intro _; rfl
  | succ L ih => intro h; rw [cdo, cdo, ih (fun i hi => h i (by omega)), h L (by omega)]
theorem vlo_ext {fnd : Nat → Nat → Nat → Nat} {o o' : Nat → Nat} {s0 : Nat × Nat} : ∀ L, (∀ i, i < L → o i = o' i) → vlo fnd o s0 L = vlo fnd o' s0 L := by
  intro L
  induction L with
  | zero => intro _; rfl
  | succ L ih => intro h; rw [vlo, vlo, ih (fun i hi => h i (by omega)), h L (by omega)]
theorem vlo_le {fnd : Nat → Nat → Nat → Nat} {o : Nat → Nat} {s0 : Nat × Nat} {L : Nat} : ∀ r, (vlo fnd o s0 (L + r)).2 ≤ (vlo fnd o s0 L).2 + r := by
  intro r
  induction r with
  | zero => exact Nat.le_refl _
  | succ r ih =>
    rw [← Nat.add_assoc, vlo]
    split
    · omega
    · show (vlo fnd o s0 (L + r)).2 + 1 ≤ _
      omega
theorem cdo_rng {ρ : Nat → Nat} {m : Nat} {o : Nat → Nat} {L : Nat} : ∀ r, (∀ i, i < L + r → ρ (o i) < m) → cdo ρ m o L * m ^ r ≤ cdo ρ m o (L + r) ∧ cdo ρ m o (L + r) < (cdo ρ m o L + 1) * m ^ r := by
  intro r
  induction r with
  | zero => intro _; rw [Nat.pow_zero, Nat.add_zero]; omega
  | succ r ih =>
    intro h
    obtain ⟨h1, h2⟩ := ih (fun i hi => h i (by omega))
    have h3 := h (L + r) (by omega)
    rw [← Nat.add_assoc, cdo, Nat.pow_succ, ← Nat.mul_assoc, ← Nat.mul_assoc]
    constructor
    · exact Nat.le_trans (Nat.mul_le_mul_right m h1) (Nat.le_add_right _ _)
    · have h4 := Nat.mul_le_mul_right m (show cdo ρ m o (L + r) + 1 ≤ _ from h2)
      rw [Nat.add_mul, Nat.one_mul] at h4
      omega
/-- codes in one stretch begin alike -/
theorem cdo_pre {ρ : Nat → Nat} {m : Nat} {o : Nat → Nat} {L r C : Nat} (h : ∀ i, i < L + r → ρ (o i) < m) (h1 : C * m ^ r ≤ cdo ρ m o (L + r)) (h2 : cdo ρ m o (L + r) < (C + 1) * m ^ r) : cdo ρ m o L = C := by
  obtain ⟨g1, g2⟩ := cdo_rng r h
  rcases Nat.lt_trichotomy (cdo ρ m o L) C with y | y | y
  · have := Nat.mul_le_mul_right (m ^ r) (show cdo ρ m o L + 1 ≤ C from y)
    omega
  · exact y
  · have := Nat.mul_le_mul_right (m ^ r) (show C + 1 ≤ cdo ρ m o L from y)
    omega
theorem cdo_eq {ρ : Nat → Nat} {m : Nat} {o o' : Nat → Nat} : ∀ L, (∀ i, i < L → ρ (o i) < m) → (∀ i, i < L → ρ (o' i) < m) → cdo ρ m o L = cdo ρ m o' L → ∀ i, i < L → ρ (o i) = ρ (o' i) := by
  intro L
  induction L with
  | zero => intro _ _ _ i hi; omega
  | succ L ih =>
    intro h h' e i hi
    rw [cdo, cdo] at e
    have h1 := h L (by omega)
    have h2 := h' L (by omega)
    have e1 : cdo ρ m o L = cdo ρ m o' L := by
      rcases Nat.lt_trichotomy (cdo ρ m o L) (cdo ρ m o' L) with y | y | y
      · have := Nat.mul_le_mul_right m (show cdo ρ m o L + 1 ≤ cdo ρ m o' L from y)
        rw [Nat.add_mul] at this
        omega
      · exact y
      · have := Nat.mul_le_mul_right m (show cdo ρ m o' L + 1 ≤ cdo ρ m o L from y)
        rw [Nat.add_mul] at this
        omega
    by_cases ei : i = L
    · subst ei; rw [e1] at e; omega
    · exact ih (fun i hi => h i (by omega)) (fun i hi => h' i (by omega)) e1 i (by omega)
section BST
variable {W nq m : Nat} {fnd : Nat → Nat → Nat → Nat} {s0 : Nat × Nat}
theorem Prm.rkl (hW : W < 2 ^ nq) (hm : rk W nq = m) {o : Nat → Nat} (h : Prm W m o) : ∀ i, i < m → rk W (o i) < m := by
  intro i hi
  have h1 := h.1 i hi
  have : o i < nq := by
    rcases Nat.lt_or_ge (o i) nq with y | y
    · exact y
    · rw [Nat.testBit_lt_two_pow (Nat.lt_of_lt_of_le hW (Nat.pow_le_pow_right (by omega) y))] at h1
      exact absurd h1 (by decide)
  rw [← hm]
  exact rk_lt this h1
theorem Prm.same (hW : W < 2 ^ nq) (hm : rk W nq = m) {o o' : Nat → Nat} (h : Prm W m o) {L : Nat} (hL : L ≤ m) (h' : ∀ i, i < L → W.testBit (o' i) = true ∧ rk W (o' i) < m) (e : cdo (rk W) m o L = cdo (rk W) m o' L) : ∀ i, i < L → o i = o' i := by
  intro i hi
  exact rk_inj (h.1 i (by omega)) (h' i hi).1 (cdo_eq L (fun i hi => h.rkl hW hm i (by omega)) (fun i hi => (h' i hi).2) e i hi)
theorem Bst.up {val : (Nat → Nat) → Nat} {N N' : Nat} {bs : Nat → Nat} {mo : Nat} (h : Bst W m val N bs mo) (hN : N ≤ N') (hv : ∀ o, Prm W m o → N ≤ cdo (rk W) m o m → cdo (rk W) m o m < N' → val o < mo) : Bst W m val N' bs mo := by
  refine ⟨fun o h1 h2 => ?_, ?_⟩
  · rcases Nat.lt_or_ge (cdo (rk W) m o m) N with y | y
    · exact h.1 o h1 y
    · exact hv o h1 y h2
  · rcases h.2 with h | ⟨h1, h2, h3, h4⟩
    · exact Or.inl h
    · exact Or.inr ⟨h1, by omega, h3, h4⟩
theorem Bst.uniq (hW : W < 2 ^ nq) (hm : rk W nq = m) {val : (Nat → Nat) → Nat} {bs bs' : Nat → Nat} {mo mo' : Nat} (h : Bst W m val (m ^ m) bs mo) (h' : Bst W m val (m ^ m) bs' mo') : mo = mo' ∧ ∀ j, j < m → bs j = bs' j := by
  -- one order there is
  have hex : ∃ o, Prm W m o := by
    have hs : ∀ j, ∃ q, j < m → (W.testBit q = true ∧ rk W q = j) := by
      intro j
      by_cases hj : j < m
      · obtain ⟨q, _, h2, h3⟩ := rk_sel W nq j (by omega)
        exact ⟨q, fun _ => ⟨h2, h3⟩⟩
      · exact ⟨0, fun y => absurd y hj⟩
    refine ⟨fun j => Classical.choose (hs j), fun j hj => (Classical.choose_spec (hs j) hj).1, fun i j hi hj e => ?_⟩
    have e1 := (Classical.choose_spec (hs i) hi).2
    have e2 := (Classical.choose_spec (hs j) hj).2
    have e : Classical.choose (hs i) = Classical.choose (hs j) := e
    rw [← e1, ← e2, e]
  have hlt : ∀ o, Prm W m o → cdo (rk W) m o m < m ^ m := by
    intro o ho
    have := (cdo_rng (ρ := rk W) (m := m) (o := o) (L := 0) m (fun i hi => ho.rkl hW hm i (by omega))).2
    rw [Nat.zero_add, cdo] at this
    omega
  obtain ⟨o, ho⟩ := hex
  have z := h.1 o ho (hlt o ho)
  have z' := h'.1 o ho (hlt o ho)
  rcases h.2 with y | ⟨h1, h2, h3, h4⟩
  · omega
  rcases h'.2 with y | ⟨g1, g2, g3, g4⟩
  · omega
  have u := h.1 bs' g1 g2
  have u' := h'.1 bs h1 h2
  refine ⟨by omega, ?_⟩
  have e : cdo (rk W) m bs m = cdo (rk W) m bs' m := by
    rcases Nat.lt_trichotomy (cdo (rk W) m bs m) (cdo (rk W) m bs' m) with y | y | y
    · have := g4 bs h1 y; omega
    · exact y
    · have := h4 bs' g1 y; omega
  exact h1.same hW hm (Nat.le_refl _) (fun i hi => ⟨g1.1 i hi, g1.rkl hW hm i hi⟩) e
theorem clr_bit {W q : Nat} (hq : q < 32) (hW : W < 2 ^ 32) (i : Nat) : (clr W q).testBit i = (W.testBit i && !decide (i = q)) := by
  unfold clr
  rw [Nat.testBit_and, Nat.testBit_xor, Nat.testBit_two_pow]
  by_cases hi : i < 32
  · have h32 : Nat.testBit 4294967295 i = true := by
      have : ∀ q, q < 32 → Nat.testBit 4294967295 q = true := by decide
      exact this i hi
    rw [h32]
    by_cases e : q = i
    · subst e; simp
    · simp [e, show ¬ i = q by omega]
  · rw [Nat.testBit_lt_two_pow (Nat.lt_of_lt_of_le hW (Nat.pow_le_pow_right (by omega) (by omega)))]
    rfl
theorem ch_best (hW : W < 2 ^ nq) (hm : rk W nq = m) (hq : nq ≤ 6) : ∀ r, r ≤ m → ∀ (V Tk hv : Nat) (s : OS), (∀ i, i < m - r → W.testBit (s.1 i) = true) → (∀ i j, i < m - r → j < m - r → s.1 i = s.1 j → i = j) → V < 2 ^ 32 → (∀ q, V.testBit q = true ↔ (W.testBit q = true ∧ ∀ i, i < m - r → s.1 i ≠ q)) → vlo fnd s.1 s0 (m - r) = (Tk, hv) → Bst W m (fun o => (vlo fnd o s0 m).2) (cdo (rk W) m s.1 (m - r) * m ^ r) s.2.1 s.2.2 → Bst W m (fun o => (vlo fnd o s0 m).2) ((cdo (rk W) m s.1 (m - r) + 1) * m ^ r) (ch fnd nq m r V Tk hv s).2.1 (ch fnd nq m r V Tk hv s).2.2 ∧ ∀ i, i < m - r → (ch fnd nq m r V Tk hv s).1 i = s.1 i := by
  have hrkl : ∀ q, W.testBit q = true → rk W q < m := by
    intro q h1
    have : q < nq := by
      rcases Nat.lt_or_ge q nq with y | y
      · exact y
      · rw [Nat.testBit_lt_two_pow (Nat.lt_of_lt_of_le hW (Nat.pow_le_pow_right (by omega) y))] at h1
        exact absurd h1 (by decide)
    rw [← hm]
    exact rk_lt this h1
  intro r
  induction r with
  | zero =>
    intro _ V Tk hv s hp hi _ hV hvl hB
    rw [Nat.sub_zero] at *
    rw [Nat.pow_zero, Nat.mul_one] at *
    rw [ch]
    split
    · rename_i hc
      refine ⟨hB.up (by omega) (fun o ho h1 h2 => ?_), fun i _ => rfl⟩
      have he := ho.same hW hm (Nat.le_refl _) (fun i hi => ⟨hp i hi, hrkl _ (hp i hi)⟩) (show cdo (rk W) m o m = cdo (rk W) m s.1 m by omega)
      show (vlo fnd o s0 m).2 < _
      rw [vlo_ext m he, hvl]
      show hv < _
      omega
    · rename_i hc
      refine ⟨⟨fun o ho h1 => ?_, Or.inr ⟨⟨fun j hj => ?_, fun i j hi' hj e => ?_⟩, ?_, ?_, fun o ho h1 => ?_⟩⟩, fun i _ => rfl⟩
      · show (vlo fnd o s0 m).2 < hv + 1
        rcases Nat.lt_or_ge (cdo (rk W) m o m) (cdo (rk W) m s.1 m) with y | y
        · have := hB.1 o ho y
          have : (vlo fnd o s0 m).2 < s.2.2 := this
          omega
        · have he := ho.same hW hm (Nat.le_refl _) (fun i hi => ⟨hp i hi, hrkl _ (hp i hi)⟩) (show cdo (rk W) m o m = cdo (rk W) m s.1 m by omega)
          rw [vlo_ext m he, hvl]
          exact Nat.lt_succ_self _
      · show W.testBit (if j < m then s.1 j else s.2.1 j) = true
        rw [if_pos hj]; exact hp j hj
      · have e : (if i < m then s.1 i else s.2.1 i) = (if j < m then s.1 j else s.2.1 j) := e
        rw [if_pos hi', if_pos hj] at e
        exact hi i j hi' hj e
      · show cdo (rk W) m (fun j => if j < m then s.1 j else s.2.1 j) m < _
        rw [cdo_ext (o' := s.1) m (fun i hi => if_pos hi)]
        exact Nat.lt_succ_self _
      · show (vlo fnd (fun j => if j < m then s.1 j else s.2.1 j) s0 m).2 + 1 = hv + 1
        rw [vlo_ext (o' := s.1) m (fun i hi => if_pos hi), hvl]
      · show (vlo fnd o s0 m).2 < (vlo fnd (fun j => if j < m then s.1 j else s.2.1 j) s0 m).2
        have h1 : cdo (rk W) m o m < cdo (rk W) m (fun j => if j < m then s.1 j else s.2.1 j) m := h1
        rw [cdo_ext (o' := s.1) m (fun i hi => if_pos hi)] at h1
        rw [vlo_ext (o' := s.1) m (fun i hi => if_pos hi), hvl]
        have : (vlo fnd o s0 m).2 < s.2.2 := hB.1 o ho h1
        show _ < hv
        omega
  | succ r ih =>
    intro hr V Tk hv s hp hi hV2 hV hvl hB
    rw [ch]
    split
    · rename_i hc
      refine ⟨hB.up (Nat.mul_le_mul_right _ (Nat.le_succ _)) (fun o ho h1 h2 => ?_), fun i _ => rfl⟩
      have hL : m - (r + 1) + (r + 1) = m := by omega
      have e1 := cdo_pre (ρ := rk W) (m := m) (o := o) (L := m - (r + 1)) (r := r + 1) (C := cdo (rk W) m s.1 (m - (r + 1))) (fun i hi => ho.rkl hW hm i (by omega)) (by rw [hL]; exact h1) (by rw [hL]; exact h2)
      have he := ho.same hW hm (Nat.sub_le _ _) (fun i hi => ⟨hp i hi, hrkl _ (hp i hi)⟩) e1
      have hb := vlo_le (fnd := fnd) (o := o) (s0 := s0) (L := m - (r + 1)) (r + 1)
      rw [hL, vlo_ext (m - (r + 1)) he, hvl] at hb
      show (vlo fnd o s0 m).2 < _
      have hb : (vlo fnd o s0 m).2 ≤ hv + (r + 1) := hb
      omega
    · obtain ⟨L, hL⟩ : ∃ L, L = m - (r + 1) := ⟨_, rfl⟩
      have hLm : L + (r + 1) = m := by omega
      rw [← hL] at hp hi hV hvl hB ⊢
      obtain ⟨c0, hc0⟩ : ∃ c, c = s.1 := ⟨_, rfl⟩
      rw [← hc0] at hp hi hV hvl hB ⊢
      obtain ⟨C, hC⟩ : ∃ C, C = cdo (rk W) m c0 L := ⟨_, rfl⟩
      rw [← hC] at hB ⊢
      have key : ∀ j q s', q + j = nq → (∀ i, i < L → s'.1 i = c0 i) → Bst W m (fun o => (vlo fnd o s0 m).2) ((C * m + rk W q) * m ^ r) s'.2.1 s'.2.2 → Bst W m (fun o => (vlo fnd o s0 m).2) ((C * m + m) * m ^ r) (chQ (fun q s => if fnd L q Tk = 0 then ch fnd nq m r (clr V q) Tk hv (un s.1 L q, s.2.1, s.2.2) else ch fnd nq m r (clr V q) (Tk ||| 2 ^ (fnd L q Tk - 1)) (hv + 1) (un s.1 L q, s.2.1, s.2.2)) V j q s').2.1 (chQ (fun q s => if fnd L q Tk = 0 then ch fnd nq m r (clr V q) Tk hv (un s.1 L q, s.2.1, s.2.2) else ch fnd nq m r (clr V q) (Tk ||| 2 ^ (fnd L q Tk - 1)) (hv + 1) (un s.1 L q, s.2.1, s.2.2)) V j q s').2.2 ∧ ∀ i, i < L → (chQ (fun q s => if fnd L q Tk = 0 then ch fnd nq m r (clr V q) Tk hv (un s.1 L q, s.2.1, s.2.2) else ch fnd nq m r (clr V q) (Tk ||| 2 ^ (fnd L q Tk - 1)) (hv + 1) (un s.1 L q, s.2.1, s.2.2)) V j q s').1 i = c0 i := by
        intro j
        induction j with
        | zero =>
          intro q s' hj hs hB'
          rw [chQ]
          rw [show q = nq by omega, hm] at hB'
          exact ⟨hB', hs⟩
        | succ j ihj =>
          intro q s' hj hs hB'
          rw [chQ]
          have hun : ∀ i, i < L → un s'.1 L q i = c0 i := fun i hi => by rw [un, if_neg (by omega)]; exact hs i hi
          have hunL : un s'.1 L q L = q := by rw [un, if_pos rfl]
          by_cases hb : V.testBit q = true
          · rw [if_pos hb]
            obtain ⟨hWq, hnq⟩ := (hV q).mp hb
            have hrk1 : rk W (q + 1) = rk W q + 1 := by rw [rk, if_pos hWq]
            have hmr : m - r = L + 1 := by omega
            have hcod : cdo (rk W) m (un s'.1 L q) (L + 1) = C * m + rk W q := by rw [cdo, hunL, cdo_ext L hun, hC]
            have hv0 : vlo fnd (un s'.1 L q) s0 L = (Tk, hv) := by rw [vlo_ext L hun]; exact hvl
            have go : ∀ Tk' hv', vlo fnd (un s'.1 L q) s0 (L + 1) = (Tk', hv') → Bst W m (fun o => (vlo fnd o s0 m).2) ((C * m + rk W (q + 1)) * m ^ r) (ch fnd nq m r (clr V q) Tk' hv' (un s'.1 L q, s'.2.1, s'.2.2)).2.1 (ch fnd nq m r (clr V q) Tk' hv' (un s'.1 L q, s'.2.1, s'.2.2)).2.2 ∧ ∀ i, i < L → (ch fnd nq m r (clr V q) Tk' hv' (un s'.1 L q, s'.2.1, s'.2.2)).1 i = c0 i := by
              intro Tk' hv' hvl'
              have hh := ih (by omega) (clr V q) Tk' hv' (un s'.1 L q, s'.2.1, s'.2.2) (by
                rw [hmr]
                intro i hi'
                show W.testBit (un s'.1 L q i) = true
                by_cases e : i = L
                · subst e; rw [hunL]; exact hWq
                · rw [hun i (by omega)]; exact hp i (by omega)) (by
                rw [hmr]
                intro i k hi' hk e
                have e : un s'.1 L q i = un s'.1 L q k := e
                by_cases e1 : i = L
                · by_cases e2 : k = L
                  · omega
                  · subst e1
                    rw [hunL, hun k (by omega)] at e
                    exact absurd e.symm (hnq k (by omega))
                · by_cases e2 : k = L
                  · subst e2
                    rw [hunL, hun i (by omega)] at e
                    exact absurd e (hnq i (by omega))
                  · rw [hun i (by omega), hun k (by omega)] at e
                    exact hi i k (by omega) (by omega) e) (clr_lt hV2) (by
                rw [hmr]
                intro p
                rw [clr_bit (by omega) hV2, Bool.and_eq_true, hV p, Bool.not_eq_true', decide_eq_false_iff_not]
                constructor
                · rintro ⟨⟨h1, h2⟩, h3⟩
                  refine ⟨h1, fun i hi' => ?_⟩
                  show un s'.1 L q i ≠ p
                  by_cases e : i = L
                  · subst e; rw [hunL]; exact fun y => h3 y.symm
                  · rw [hun i (by omega)]; exact h2 i (by omega)
                · rintro ⟨h1, h2⟩
                  refine ⟨⟨h1, fun i hi' => ?_⟩, fun y => ?_⟩
                  · have := h2 i (by omega)
                    have : un s'.1 L q i ≠ p := this
                    rw [hun i hi'] at this
                    exact this
                  · have := h2 L (by omega)
                    have : un s'.1 L q L ≠ p := this
                    rw [hunL] at this
                    exact this y.symm) (by rw [hmr]; exact hvl') (by
                rw [hmr]
                show Bst W m _ (cdo (rk W) m (un s'.1 L q) (L + 1) * m ^ r) _ _
                rw [hcod]; exact hB')
              rw [hmr] at hh
              obtain ⟨h1, h2⟩ := hh
              refine ⟨?_, fun i hi' => (h2 i (by omega)).trans (hun i hi')⟩
              have h1 : Bst W m _ ((cdo (rk W) m (un s'.1 L q) (L + 1) + 1) * m ^ r) _ _ := h1
              rw [hcod] at h1
              rw [hrk1, ← Nat.add_assoc]
              exact h1
            split
            · rename_i hf
              obtain ⟨h1, h2⟩ := go Tk hv (by rw [vlo, hv0, hunL, if_pos hf])
              exact ihj (q + 1) _ (by omega) h2 h1
            · rename_i hf
              obtain ⟨h1, h2⟩ := go (Tk ||| 2 ^ (fnd L q Tk - 1)) (hv + 1) (by rw [vlo, hv0, hunL, if_neg hf])
              exact ihj (q + 1) _ (by omega) h2 h1
          · rw [if_neg hb]
            refine ihj (q + 1) s' (by omega) hs (hB'.up (Nat.mul_le_mul_right _ (Nat.add_le_add_left (rk_mono (Nat.le_succ _)) _)) (fun o ho h1 h2 => ?_))
            by_cases hWq : W.testBit q = true
            · exfalso
              have hrk1 : rk W (q + 1) = rk W q + 1 := by rw [rk, if_pos hWq]
              rw [hrk1] at h2
              have hLr : L + 1 + r = m := by omega
              have e1 := cdo_pre (ρ := rk W) (m := m) (o := o) (L := L + 1) (r := r) (C := C * m + rk W q) (fun i hi => ho.rkl hW hm i (by omega)) (by rw [hLr]; exact h1) (by rw [hLr]; exact h2)
              have hcod : cdo (rk W) m (un c0 L q) (L + 1) = C * m + rk W q := by
                rw [cdo, un, if_pos rfl, cdo_ext (o' := c0) L (fun i hi => by rw [un, if_neg (by omega)]), hC]
              have he := ho.same hW hm (show L + 1 ≤ m by omega) (o' := un c0 L q) (fun i hi' => by
                by_cases e : i = L
                · subst e; rw [un, if_pos rfl]; exact ⟨hWq, hrkl _ hWq⟩
                · rw [un, if_neg (by omega)]; exact ⟨hp i (by omega), hrkl _ (hp i (by omega))⟩) (by rw [e1, hcod])
              apply hb
              rw [hV q]
              refine ⟨hWq, fun i hi' e => ?_⟩
              have e2 := he i (by omega)
              have e3 := he L (by omega)
              rw [un, if_neg (by omega)] at e2
              rw [un, if_pos rfl] at e3
              have := ho.2 i L (by omega) (by omega) (by rw [e2, e3, e])
              omega
            · exfalso
              rw [show rk W (q + 1) = rk W q by rw [rk, if_neg hWq, Nat.add_zero]] at h2
              omega
      have h9 := key nq 0 s (by omega) (fun i _ => by rw [hc0]) (by
        rw [rk, Nat.add_zero, Nat.mul_assoc, ← Nat.pow_succ']
        exact hB)
      rw [show (C * m + m) * m ^ r = (C + 1) * m ^ (r + 1) by rw [Nat.pow_succ', ← Nat.mul_assoc, Nat.add_mul C 1 m, Nat.one_mul]] at h9
      exact h9
end BST
