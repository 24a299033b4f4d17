/-! the greatest number of people who could claim at once -/
def cnt (h : Nat → Nat) : Nat := sumN (fun p => if h p = 0 then 0 else 1) 7
theorem cnt_un0 {h : Nat → Nat} {p x : Nat} (hp : p < 7) (h0 : h p = 0) (hx : x ≠ 0) : cnt (un h p x) = cnt h + 1 := by
  unfold cnt
  rcases (by omega : p = 0 ∨ p = 1 ∨ p = 2 ∨ p = 3 ∨ p = 4 ∨ p = 5 ∨ p = 6) with rfl | rfl | rfl | rfl | rfl | rfl | rfl <;> simp [sumN, un, h0, hx] <;> omega
theorem cnt_un1 {h : Nat → Nat} {p x : Nat} (hp : p < 7) (h0 : h p ≠ 0) (hx : x ≠ 0) : cnt (un h p x) = cnt h := by
  unfold cnt
  rcases (by omega : p = 0 ∨ p = 1 ∨ p = 2 ∨ p = 3 ∨ p = 4 ∨ p = 5 ∨ p = 6) with rfl | rfl | rfl | rfl | rfl | rfl | rfl <;> simp [sumN, un, h0, hx]
theorem sumN_le {f g : Nat → Nat} : ∀ k, (∀ i, i < k → f i ≤ g i) → sumN f k ≤ sumN g k := by
  intro k
  induction k with
  | zero => intro _; exact Nat.le_refl _
  | succ k ih => intro h; rw [sumN, sumN]; have := ih (fun i hi => h i (by omega)); have := h k (by omega); omega
theorem sumN_ext {f g : Nat → Nat} : ∀ k, (∀ i, i < k → f i = g i) → sumN f k = sumN g k := by
  intro k
  induction k with
  | zero => intro _; rfl
  | succ k ih => intro h; rw [sumN, sumN, ih (fun i hi => h i (by omega)), h k (by omega)]
theorem cnt_le {g h : Nat → Nat} (e : ∀ p, p < 7 → g p ≠ 0 → h p ≠ 0) : cnt g ≤ cnt h := by
  refine sumN_le 7 (fun p hp => ?_)
  by_cases z : g p = 0
  · simp [z]
  · simp [z, e p hp z]
theorem cnt_ext {g h : Nat → Nat} (e : ∀ p, p < 7 → g p = h p) : cnt g = cnt h := sumN_ext 7 (fun p hp => by rw [e p hp])
/-- who has which: by puddle, 0 or the person's number and 1; the first k people, by sets G, the puddles of S -/
def Vd (G : Nat → Nat) (k S : Nat) (g : Nat → Nat) : Prop := (∀ p, p < 7 → g p ≠ 0 → g p - 1 < k ∧ (G (g p - 1)).testBit p = true ∧ S.testBit p = true) ∧ ∀ p p', p < 7 → p' < 7 → g p = g p' → g p ≠ 0 → p = p'
def IsMax (G : Nat → Nat) (k S m : Nat) : Prop := (∃ g, Vd G k S g ∧ cnt g = m) ∧ ∀ g, Vd G k S g → cnt g ≤ m
theorem IsMax.uniq {G : Nat → Nat} {k S m m' : Nat} (h : IsMax G k S m) (h' : IsMax G k S m') : m = m' := by
  obtain ⟨⟨g, g1, g2⟩, g3⟩ := h
  obtain ⟨⟨z, z1, z2⟩, z3⟩ := h'
  have := g3 z z1
  have := z3 g g1
  omega
theorem IsMax_0 (G : Nat → Nat) (S : Nat) : IsMax G 0 S 0 := by
  refine ⟨⟨fun _ => 0, ⟨fun p _ h => absurd rfl h, fun p p' _ _ _ h => absurd rfl h⟩, rfl⟩, fun g hg => ?_⟩
  have : cnt g ≤ cnt (fun _ => 0) := cnt_le (fun p hp hz => absurd (hg.1 p hp hz).1 (by omega))
  exact this
/-- without the last of them -/
theorem Vd.drop {G : Nat → Nat} {k S : Nat} {g : Nat → Nat} (h : Vd G (k + 1) S g) : (Vd G k S g) ∨ ∃ p g', p < 7 ∧ g' p = 0 ∧ g p = k + 1 ∧ Vd G k S g' ∧ (∀ j, j < 7 → j ≠ p → g' j = g j) ∧ cnt g = cnt g' + 1 ∧ S.testBit p = true ∧ (G k).testBit p = true := by
  by_cases hx : ∃ p, p < 7 ∧ g p = k + 1
  · right
    obtain ⟨p, hp, e⟩ := hx
    have hv := h.1 p hp (by omega)
    refine ⟨p, un g p 0, hp, un_s, e, ⟨fun j hj hz => ?_, fun i j hi hj e2 hz => ?_⟩, fun j _ hn => un_n hn, ?_, hv.2.2, by have := hv.2.1; rw [e] at this; exact this⟩
    · have hn : j ≠ p := fun z => hz (by rw [z]; exact un_s)
      rw [un_n hn] at hz ⊢
      have hv2 := h.1 j hj hz
      refine ⟨?_, hv2.2⟩
      have : g j - 1 ≠ k := fun z => hn (h.2 j p hj hp (by omega) hz)
      omega
    · have hn : i ≠ p := fun z => hz (by rw [z]; exact un_s)
      have hn2 : j ≠ p := fun z => by rw [z, un_s, un_n hn] at e2; rw [un_n hn] at hz; exact hz e2
      rw [un_n hn, un_n hn2] at e2
      rw [un_n hn] at hz
      exact h.2 i j hi hj e2 hz
    · have e3 : cnt g = cnt (un (un g p 0) p (k + 1)) := cnt_ext (fun j _ => by
        by_cases z : j = p
        · subst z; rw [un_s, e]
        · rw [un_n z, un_n z])
      rw [e3, cnt_un0 hp un_s (by omega)]
  · left
    refine ⟨fun p hp hz => ?_, h.2⟩
    have hv := h.1 p hp hz
    refine ⟨?_, hv.2⟩
    have : ¬ g p = k + 1 := fun z => hx ⟨p, hp, z⟩
    omega
theorem Vd.up {G : Nat → Nat} {k S : Nat} {g : Nat → Nat} (h : Vd G k S g) : Vd G (k + 1) S g := ⟨fun p hp hz => by have := h.1 p hp hz; exact ⟨by omega, this.2⟩, h.2⟩
/-! how one is found -/
def foL (fits : Nat → Nat) (rc : Nat → (Nat → Nat) → Nat → Bool × (Nat → Nat) × Nat) (q : Nat) : Nat → Nat → (Nat → Nat) → Nat → Bool × (Nat → Nat) × Nat
  | 0, _, h, T => (false, h, T)
  | j + 1, p, h, T =>
    if (fits q).testBit p = true ∧ T.testBit p = false then
      (if h p = 0 then (true, un h p (q + 1), T ||| 2 ^ p) else
        (if (rc (h p - 1) h (T ||| 2 ^ p)).1 = true then (true, un (rc (h p - 1) h (T ||| 2 ^ p)).2.1 p (q + 1), (rc (h p - 1) h (T ||| 2 ^ p)).2.2) else
          foL fits rc q j (p + 1) (rc (h p - 1) h (T ||| 2 ^ p)).2.1 (rc (h p - 1) h (T ||| 2 ^ p)).2.2))
    else foL fits rc q j (p + 1) h T
def fo (fits : Nat → Nat) : Nat → Nat → (Nat → Nat) → Nat → Bool × (Nat → Nat) × Nat
  | 0, _, h, T => (false, h, T)
  | F + 1, q, h, T => foL fits (fo fits F) q 7 0 h T
/-- what stands outside T: apart from one another, and the one who asks isn't among them -/
def Out (q : Nat) (h : Nat → Nat) (T : Nat) : Prop := (∀ p p', p < 7 → p' < 7 → T.testBit p = false → T.testBit p' = false → h p = h p' → h p ≠ 0 → p = p') ∧ ∀ p, p < 7 → T.testBit p = false → h p ≠ q + 1
def Won (fits : Nat → Nat) (q : Nat) (h : Nat → Nat) (T : Nat) (h' : Nat → Nat) : Prop :=
  (∀ p, p < 7 → T.testBit p = true → h' p = h p) ∧ cnt h' = cnt h + 1 ∧ (∀ p p', p < 7 → p' < 7 → T.testBit p = false → T.testBit p' = false → h' p = h' p' → h' p ≠ 0 → p = p') ∧ (∀ p, p < 7 → T.testBit p = false → h' p ≠ 0 → (h' p = q + 1 ∨ ∃ p', p' < 7 ∧ T.testBit p' = false ∧ h p' = h' p)) ∧ ∀ p, p < 7 → h' p ≠ h p → h' p ≠ 0 ∧ (fits (h' p - 1)).testBit p = true
def Lost (fits : Nat → Nat) (q : Nat) (h : Nat → Nat) (T : Nat) (h' : Nat → Nat) (T' : Nat) : Prop :=
  h' = h ∧ T' < 128 ∧ pop T ≤ pop T' ∧ (∀ p, T.testBit p = true → T'.testBit p = true) ∧ (∀ p, p < 7 → (fits q).testBit p = true → T'.testBit p = true) ∧ ∀ p, p < 7 → T'.testBit p = true → T.testBit p = false → h p ≠ 0 ∧ ∀ p', p' < 7 → (fits (h p - 1)).testBit p' = true → T'.testBit p' = true
theorem pop_add : ∀ T, T < 128 → ∀ p, p < 7 → T.testBit p = false → pop (T ||| 2 ^ p) = pop T + 1 := by decide +kernel
theorem pop_7 : ∀ T, T < 128 → pop T ≤ 7 := by decide +kernel
theorem or_128 {T p : Nat} (hT : T < 128) (hp : p < 7) : T ||| 2 ^ p < 128 := Nat.or_lt_two_pow (n := 7) hT (Nat.pow_lt_pow_right (by omega) hp)
theorem bit_or {T p j : Nat} : (T ||| 2 ^ p).testBit j = true ↔ T.testBit j = true ∨ j = p := by
  rw [Nat.testBit_or, Bool.or_eq_true, Nat.testBit_two_pow, decide_eq_true_eq]
  constructor
  · rintro (h | h)
    · exact Or.inl h
    · exact Or.inr h.symm
  · rintro (h | h)
    · exact Or.inl h
    · exact Or.inr h.symm
theorem bit_orF {T p j : Nat} : (T ||| 2 ^ p).testBit j = false ↔ T.testBit j = false ∧ j ≠ p := by
  rw [← Bool.not_eq_true, bit_or, ← Bool.not_eq_true]
  constructor
  · intro h; exact ⟨fun z => h (Or.inl z), fun z => h (Or.inr z)⟩
  · rintro ⟨h1, h2⟩ (z | z)
    · exact h1 z
    · exact h2 z
theorem foL_spec (fits : Nat → Nat) (rc : Nat → (Nat → Nat) → Nat → Bool × (Nat → Nat) × Nat) (F : Nat) (q : Nat)
    (hrc : ∀ q h T, T < 128 → 8 ≤ F + pop T → Out q h T → (((rc q h T).1 = true → Won fits q h T (rc q h T).2.1) ∧ ((rc q h T).1 = false → Lost fits q h T (rc q h T).2.1 (rc q h T).2.2))) :
    ∀ j p h T, p + j = 7 → T < 128 → 7 ≤ F + pop T → Out q h T → (∀ i, i < p → (fits q).testBit i = true → T.testBit i = true) → (((foL fits rc q j p h T).1 = true → Won fits q h T (foL fits rc q j p h T).2.1) ∧ ((foL fits rc q j p h T).1 = false → Lost fits q h T (foL fits rc q j p h T).2.1 (foL fits rc q j p h T).2.2)) := by
  intro j
  induction j with
  | zero =>
    intro p h T hp hT _ _ hpre
    refine ⟨fun z => by simp [foL] at z, fun _ => ?_⟩
    simp only [foL]
    exact ⟨rfl, hT, Nat.le_refl _, fun _ z => z, fun i hi hz => hpre i (by omega) hz, fun i _ z1 z2 => by rw [z1] at z2; cases z2⟩
  | succ j ih =>
    intro p h T hp hT hF hO hpre
    rw [foL]
    by_cases hc : (fits q).testBit p = true ∧ T.testBit p = false
    · rw [if_pos hc]
      by_cases h0 : h p = 0
      · rw [if_pos h0]
        refine ⟨fun _ => ⟨fun i hi hz => ?_, cnt_un0 (by omega) h0 (by omega), fun i i' hi hi' z1 z2 e hn => ?_, fun i hi z hn => ?_, fun i hi z => ?_⟩, fun z => by cases z⟩
        · have : i ≠ p := fun y => by rw [y, hc.2] at hz; cases hz
          exact un_n this
        · dsimp only at e hn
          by_cases y : i = p
          · by_cases y2 : i' = p
            · omega
            · rw [y, un_s, un_n y2] at e
              exact absurd e.symm (hO.2 i' hi' z2)
          · by_cases y2 : i' = p
            · rw [y2, un_s, un_n y] at e
              exact absurd e (hO.2 i hi z1)
            · rw [un_n y, un_n y2] at e
              rw [un_n y] at hn
              exact hO.1 i i' hi hi' z1 z2 e hn
        · dsimp only at hn ⊢
          by_cases y : i = p
          · left; rw [y, un_s]
          · right; rw [un_n y]; exact ⟨i, hi, z, rfl⟩
        · dsimp only at z ⊢
          by_cases y : i = p
          · rw [y, un_s]; exact ⟨by omega, hc.1⟩
          · rw [un_n y] at z; exact absurd rfl z
      · rw [if_neg h0]
        have hT1 : T ||| 2 ^ p < 128 := or_128 hT (by omega)
        have hpop := pop_add T hT p (by omega) hc.2
        have hO1 : Out (h p - 1) h (T ||| 2 ^ p) := by
          refine ⟨fun i i' hi hi' z1 z2 e hn => hO.1 i i' hi hi' (bit_orF.mp z1).1 (bit_orF.mp z2).1 e hn, fun i hi z e => ?_⟩
          have hz := bit_orF.mp z
          exact hz.2 (hO.1 i p hi (by omega) hz.1 hc.2 (by omega) (by omega))
        obtain ⟨r1, r2⟩ := hrc (h p - 1) h (T ||| 2 ^ p) hT1 (by omega) hO1
        by_cases hr : (rc (h p - 1) h (T ||| 2 ^ p)).1 = true
        · rw [if_pos hr]
          obtain ⟨w1, w2, w3, w4, w5⟩ := r1 hr
          generalize (rc (h p - 1) h (T ||| 2 ^ p)).2.1 = h1 at *
          have hp1 : h1 p = h p := w1 p (by omega) (bit_or.mpr (Or.inr rfl))
          have hq1 : h p ≠ q + 1 := hO.2 p (by omega) hc.2
          have hval : ∀ i, i < 7 → T.testBit i = false → i ≠ p → h1 i ≠ 0 → h1 i ≠ q + 1 := by
            intro i hi z y hn e
            rcases w4 i hi (bit_orF.mpr ⟨z, y⟩) hn with g | ⟨i', g1, g2, g3⟩
            · omega
            · exact hO.2 i' g1 (bit_orF.mp g2).1 (by omega)
          refine ⟨fun _ => ⟨fun i hi hz => ?_, ?_, fun i i' hi hi' z1 z2 e hn => ?_, fun i hi z hn => ?_, fun i hi z => ?_⟩, fun z => by cases z⟩
          · have : i ≠ p := fun y => by rw [y, hc.2] at hz; cases hz
            show un h1 p (q + 1) i = h i
            rw [un_n this]; exact w1 i hi (bit_or.mpr (Or.inl hz))
          · show cnt (un h1 p (q + 1)) = _
            rw [cnt_un1 (by omega) (by omega) (by omega)]; exact w2
          · dsimp only at e hn
            by_cases y : i = p
            · by_cases y2 : i' = p
              · omega
              · rw [y, un_s, un_n y2] at e
                exact absurd e.symm (hval i' hi' z2 y2 (by omega))
            · rw [un_n y] at hn
              by_cases y2 : i' = p
              · rw [y2, un_s, un_n y] at e
                exact absurd e (hval i hi z1 y hn)
              · rw [un_n y, un_n y2] at e
                exact w3 i i' hi hi' (bit_orF.mpr ⟨z1, y⟩) (bit_orF.mpr ⟨z2, y2⟩) e hn
          · dsimp only at hn ⊢
            by_cases y : i = p
            · left; rw [y, un_s]
            · right
              rw [un_n y] at hn ⊢
              rcases w4 i hi (bit_orF.mpr ⟨z, y⟩) hn with g | ⟨i', g1, g2, g3⟩
              · exact ⟨p, by omega, hc.2, by omega⟩
              · exact ⟨i', g1, (bit_orF.mp g2).1, g3⟩
          · dsimp only at z ⊢
            by_cases y : i = p
            · rw [y, un_s]; exact ⟨by omega, hc.1⟩
            · rw [un_n y] at z ⊢
              exact w5 i hi z
        · rw [if_neg hr]
          obtain ⟨e1, e2, e3, e4, e5, e6⟩ := r2 (by simpa using hr)
          rw [e1]
          generalize (rc (h p - 1) h (T ||| 2 ^ p)).2.2 = T1 at *
          have hsub : ∀ i, T.testBit i = true → T1.testBit i = true := fun i hi => e4 i (bit_or.mpr (Or.inl hi))
          have hsubF : ∀ i, T1.testBit i = false → T.testBit i = false := fun i hi => by
            cases hz : T.testBit i
            · rfl
            · rw [hsub i hz] at hi; cases hi
          have hO2 : Out q h T1 := ⟨fun i i' hi hi' z1 z2 e hn => hO.1 i i' hi hi' (hsubF i z1) (hsubF i' z2) e hn, fun i hi z => hO.2 i hi (hsubF i z)⟩
          obtain ⟨s1, s2⟩ := ih (p + 1) h T1 (by omega) e2 (by omega) hO2 (fun i hi hz => by
            by_cases y : i = p
            · rw [y]; exact e4 p (bit_or.mpr (Or.inr rfl))
            · exact hsub i (hpre i (by omega) hz))
          refine ⟨fun z => ?_, fun z => ?_⟩
          · obtain ⟨w1, w2, w3, w4, w5⟩ := s1 z
            generalize (foL fits rc q j (p + 1) h T1).2.1 = h2 at *
            have hA : ∀ i, i < 7 → T1.testBit i = false → h2 i ≠ 0 → h2 i = q + 1 ∨ ∃ i', i' < 7 ∧ T1.testBit i' = false ∧ h i' = h2 i := w4
            refine ⟨fun i hi hz => w1 i hi (hsub i hz), w2, fun i i' hi hi' z1 z2 e hn => ?_, fun i hi z hn => ?_, w5⟩
            · cases y : T1.testBit i
              · cases y2 : T1.testBit i'
                · exact w3 i i' hi hi' y y2 e hn
                · rw [w1 i' hi' y2] at e
                  rcases hA i hi y hn with g | ⟨i2, g1, g2, g3⟩
                  · exact absurd (by omega) (hO.2 i' hi' z2)
                  · have := hO.1 i2 i' g1 hi' (hsubF i2 g2) z2 (by omega) (by omega)
                    rw [this, y2] at g2; cases g2
              · rw [w1 i hi y] at e hn
                cases y2 : T1.testBit i'
                · rcases hA i' hi' y2 (by omega) with g | ⟨i2, g1, g2, g3⟩
                  · exact absurd (by omega) (hO.2 i hi z1)
                  · have := hO.1 i2 i g1 hi (hsubF i2 g2) z1 (by omega) (by omega)
                    rw [this, y] at g2; cases g2
                · rw [w1 i' hi' y2] at e
                  exact hO.1 i i' hi hi' z1 z2 e hn
            · cases y : T1.testBit i
              · rcases hA i hi y hn with g | ⟨i2, g1, g2, g3⟩
                · exact Or.inl g
                · exact Or.inr ⟨i2, g1, hsubF i2 g2, g3⟩
              · exact Or.inr ⟨i, hi, z, (w1 i hi y).symm⟩
          · obtain ⟨f1, f2, f3, f4, f5, f6⟩ := s2 z
            generalize (foL fits rc q j (p + 1) h T1).2.2 = T2 at *
            refine ⟨f1, f2, by omega, fun i hi => f4 i (hsub i hi), f5, fun i hi z1 z2 => ?_⟩
            cases y : T1.testBit i
            · exact f6 i hi z1 y
            · by_cases y2 : i = p
              · subst y2
                exact ⟨h0, fun i' hi' hz => f4 i' (e5 i' hi' hz)⟩
              · have g := e6 i hi y (bit_orF.mpr ⟨z2, y2⟩)
                exact ⟨g.1, fun i' hi' hz => f4 i' (g.2 i' hi' hz)⟩
    · rw [if_neg hc]
      exact ih (p + 1) h T (by omega) hT hF hO (fun i hi hz => by
        by_cases y : i = p
        · cases hz2 : T.testBit i
          · rw [y] at hz hz2; exact absurd ⟨hz, hz2⟩ hc
          · rfl
        · exact hpre i (by omega) hz)
theorem fo_spec (fits : Nat → Nat) : ∀ F q h T, T < 128 → 8 ≤ F + pop T → Out q h T → (((fo fits F q h T).1 = true → Won fits q h T (fo fits F q h T).2.1) ∧ ((fo fits F q h T).1 = false → Lost fits q h T (fo fits F q h T).2.1 (fo fits F q h T).2.2)) := by
  intro F
  induction F with
  | zero => intro q h T hT hF _; have := pop_7 T hT; omega
  | succ F ih =>
    intro q h T hT hF hO
    rw [fo]
    exact foL_spec fits (fo fits F) F q ih 7 0 h T rfl hT (by omega) hO (fun i hi => absurd hi (by omega))
/-- one more of the people: found -/
theorem max_won {G fits : Nat → Nat} {k m : Nat} {h h' : Nat → Nat} (hm : IsMax G k 127 m) (hv : Vd G k 127 h) (hc : cnt h = m) (hf : ∀ x, x ≤ k → fits x = G x) (hw : Won fits k h 0 h') : IsMax G (k + 1) 127 (m + 1) ∧ Vd G (k + 1) 127 h' ∧ cnt h' = m + 1 := by
  obtain ⟨w1, w2, w3, w4, w5⟩ := hw
  have b127 : ∀ p, p < 7 → Nat.testBit 127 p = true := by decide
  have hv' : Vd G (k + 1) 127 h' := by
    refine ⟨fun p hp hz => ?_, fun p p' hp hp' e hz => w3 p p' hp hp' (Nat.zero_testBit p) (Nat.zero_testBit p') e hz⟩
    have hlt : h' p - 1 < k + 1 := by
      rcases w4 p hp (Nat.zero_testBit p) hz with g | ⟨p', g1, g2, g3⟩
      · omega
      · have := (hv.1 p' g1 (by omega)).1; omega
    refine ⟨hlt, ?_, b127 p hp⟩
    by_cases e : h' p = h p
    · rw [e]; exact (hv.1 p hp (by omega)).2.1
    · have := (w5 p hp e).2
      rw [hf _ (by omega)] at this
      exact this
  refine ⟨⟨⟨h', hv', by omega⟩, fun g hg => ?_⟩, hv', by omega⟩
  rcases hg.drop with h1 | ⟨p, g', hp, h0, e, h1, _, h2, _⟩
  · have := hm.2 g h1; omega
  · have := hm.2 g' h1; omega
/-- one more of the people: not found -/
theorem max_lost {G fits : Nat → Nat} {k m T' : Nat} {h h' : Nat → Nat} (hm : IsMax G k 127 m) (hv : Vd G k 127 h) (hc : cnt h = m) (hf : ∀ x, x ≤ k → fits x = G x) (hw : Lost fits k h 0 h' T') : IsMax G (k + 1) 127 m ∧ Vd G (k + 1) 127 h := by
  obtain ⟨e1, e2, e3, e4, e5, e6⟩ := hw
  refine ⟨⟨⟨h, hv.up, hc⟩, fun g hg => ?_⟩, hv.up⟩
  have key : ∀ p, p < 7 → T'.testBit p = false → g p ≠ 0 → g p - 1 < k ∧ ∀ p', p' < 7 → T'.testBit p' = true → h p' ≠ g p := by
    intro p hp hz hn
    have hgv := hg.1 p hp hn
    refine ⟨?_, fun p' hp' hz' e => ?_⟩
    · have : g p - 1 ≠ k := fun z => by
        have h1 := hgv.2.1
        rw [z, ← hf k (Nat.le_refl _)] at h1
        rw [e5 p hp h1] at hz; cases hz
      omega
    · have h6 := (e6 p' hp' hz' (Nat.zero_testBit p')).2 p hp
      have h1 := hgv.2.1
      rw [← e, ← hf _ (by have := hgv.1; omega)] at h1
      rw [h6 h1] at hz; cases hz
  have hg' : Vd G k 127 (fun p => if T'.testBit p = true then h p else g p) := by
    refine ⟨fun p hp hn => ?_, fun p p' hp hp' e hn => ?_⟩
    · dsimp only at hn ⊢
      by_cases z : T'.testBit p = true
      · rw [if_pos z] at hn ⊢
        exact hv.1 p hp hn
      · rw [if_neg z] at hn ⊢
        have hk := key p hp (by simpa using z) hn
        exact ⟨hk.1, (hg.1 p hp hn).2⟩
    · dsimp only at e hn
      by_cases z : T'.testBit p = true
      · rw [if_pos z] at e hn
        by_cases z' : T'.testBit p' = true
        · rw [if_pos z'] at e
          exact hv.2 p p' hp hp' e hn
        · rw [if_neg z'] at e
          exact absurd e ((key p' hp' (by simpa using z') (by omega)).2 p hp z)
      · rw [if_neg z] at e hn
        by_cases z' : T'.testBit p' = true
        · rw [if_pos z'] at e
          exact absurd e.symm ((key p hp (by simpa using z) hn).2 p' hp' z')
        · rw [if_neg z'] at e
          exact hg.2 p p' hp hp' e hn
  have h1 := hm.2 _ hg'
  have h2 : cnt g ≤ cnt (fun p => if T'.testBit p = true then h p else g p) := by
    refine cnt_le (fun p hp hn => ?_)
    by_cases z : T'.testBit p = true
    · rw [if_pos z]; exact (e6 p hp z (Nat.zero_testBit p)).1
    · rw [if_neg z]; exact hn
  omega
/-- one more of the people who takes no part -/
theorem max_none {G : Nat → Nat} {k S m : Nat} (hm : IsMax G k S m) (h0 : G k = 0) : IsMax G (k + 1) S m := by
  obtain ⟨⟨g, g1, g2⟩, g3⟩ := hm
  refine ⟨⟨g, g1.up, g2⟩, fun g' hg' => ?_⟩
  rcases hg'.drop with h1 | ⟨p, z, _, _, _, _, _, _, _, h9⟩
  · exact g3 g' h1
  · rw [h0] at h9; simp at h9
/-- the row of a table by sets: with one more of the people -/
theorem max_row {G : Nat → Nat} {k S m : Nat} (had : Nat → Nat) (hb : ∀ S, S < 128 → IsMax G k S (had S)) (hS : S < 128) (h1 : had S ≤ m) (h2 : ∀ p, p < 7 → S.testBit p = true → (G k).testBit p = true → had (S ^^^ 2 ^ p) + 1 ≤ m) (h3 : m = had S ∨ ∃ p, p < 7 ∧ S.testBit p = true ∧ (G k).testBit p = true ∧ m = had (S ^^^ 2 ^ p) + 1) : IsMax G (k + 1) S m := by
  have hx : ∀ p, p < 7 → S ^^^ 2 ^ p < 128 := fun p hp => Nat.xor_lt_two_pow (n := 7) hS (Nat.pow_lt_pow_right (by omega) hp)
  have hbit : ∀ p j, (S ^^^ 2 ^ p).testBit j = (S.testBit j ^^ decide (p = j)) := fun p j => by rw [Nat.testBit_xor, Nat.testBit_two_pow]
  refine ⟨?_, fun g hg => ?_⟩
  · rcases h3 with e | ⟨p, hp, z1, z2, e⟩
    · obtain ⟨g, g1, g2⟩ := (hb S hS).1
      exact ⟨g, g1.up, by omega⟩
    · obtain ⟨g, g1, g2⟩ := (hb _ (hx p hp)).1
      have hg0 : g p = 0 := by
        by_cases z : g p = 0
        · exact z
        · have := (g1.1 p hp z).2.2
          rw [hbit, z1] at this
          simp at this
      refine ⟨un g p (k + 1), ⟨fun j hj hn => ?_, fun i j hi hj e2 hn => ?_⟩, by rw [cnt_un0 hp hg0 (by omega), g2, e]⟩
      · by_cases y : j = p
        · subst y; rw [un_s]; exact ⟨by omega, z2, z1⟩
        · rw [un_n y] at hn ⊢
          have h4 := g1.1 j hj hn
          refine ⟨by omega, h4.2.1, ?_⟩
          have := h4.2.2
          rw [hbit] at this
          simpa [show ¬ p = j from fun z => y z.symm] using this
      · by_cases y : i = p
        · by_cases y2 : j = p
          · omega
          · rw [y, un_s, un_n y2] at e2
            have := (g1.1 j hj (by omega)).1; omega
        · rw [un_n y] at hn
          by_cases y2 : j = p
          · rw [y2, un_s, un_n y] at e2
            have := (g1.1 i hi hn).1; omega
          · rw [un_n y, un_n y2] at e2
            exact g1.2 i j hi hj e2 hn
  · rcases hg.drop with z | ⟨p, g', hp, h0, e, z, zz, zc, zs, zg⟩
    · have := (hb S hS).2 g z; omega
    · have hv : Vd G k (S ^^^ 2 ^ p) g' := by
        refine ⟨fun j hj hn => ?_, z.2⟩
        have h4 := z.1 j hj hn
        refine ⟨h4.1, h4.2.1, ?_⟩
        have hjp : ¬ p = j := fun y => hn (by rw [← y]; exact h0)
        rw [hbit, h4.2.2]; simp [hjp]
      have := (hb _ (hx p hp)).2 g' hv
      have := h2 p hp zs zg
      omega
