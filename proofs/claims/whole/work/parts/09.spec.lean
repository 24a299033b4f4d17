/-! what a street is: a k j, k = 0 kind, 1 shown, 2 deep (by puddle), 3 lost, 4 comes, 5 needs, 6 claimed (by person; 0 none, p + 1 the puddle p) -/
abbrev SA : Type := Nat → Nat → Nat
def cI (c : Nat) : Int32 := match c with
  | 0 => -4
  | c + 1 => nI c
def a2 (a : SA) (k j x : Nat) : SA := fun k' j' => if k' = k ∧ j' = j then x else a k' j'
theorem a2_s {a : SA} {k j x : Nat} : a2 a k j x k j = x := by simp [a2]
theorem a2_n {a : SA} {k j x k' j' : Nat} (h : ¬ (k' = k ∧ j' = j)) : a2 a k j x k' j' = a k' j' := by simp [a2, h]
def bsN (f : Nat → Bool) : Nat → Nat
  | 0 => 0
  | i + 1 => bsN f i ||| (if f i then 2 ^ i else 0)
theorem bsN_bit (f : Nat → Bool) (i : Nat) : ∀ n, (bsN f n).testBit i = (decide (i < n) && f i) := by
  intro n
  induction n with
  | zero => simp [bsN]
  | succ n ih =>
    rw [bsN, Nat.testBit_or, ih]
    by_cases h : i = n
    · subst h
      cases hf : f i <;> simp [hf]
    · by_cases hl : i < n
      · cases hf : f n <;> simp [hl, show i < n + 1 by omega, Nat.testBit_two_pow, show ¬ n = i by omega]
      · cases hf : f n <;> simp [hl, show ¬ i < n + 1 by omega, Nat.testBit_two_pow, show ¬ n = i by omega]
theorem bsN_lt (f : Nat → Bool) : ∀ n, bsN f n < 2 ^ n := by
  intro n
  induction n with
  | zero => simp [bsN]
  | succ n ih =>
    rw [bsN]
    refine Nat.or_lt_two_pow (Nat.lt_of_lt_of_le ih (Nat.pow_le_pow_right (by omega) (by omega))) ?_
    split
    · exact Nat.pow_lt_pow_right (by omega) (by omega)
    · exact Nat.two_pow_pos _
theorem bsN_ext {f g : Nat → Bool} : ∀ n, (∀ i, i < n → f i = g i) → bsN f n = bsN g n := by
  intro n
  induction n with
  | zero => intro _; rfl
  | succ n ih => intro h; rw [bsN, bsN, ih (fun i hi => h i (by omega)), h n (by omega)]
def hasC (a : SA) (q : Nat) : Bool := a 6 q != 0
def dryB (a : SA) (p : Nat) : Bool := a 2 p == 0
/-- which are claimed, as a set -/
def clS (a : SA) : Nat → Nat
  | 0 => 0
  | q + 1 => clS a q ||| (if a 6 q = 0 then 0 else 2 ^ (a 6 q - 1))
theorem clS_bit (a : SA) (p : Nat) : ∀ nq, (clS a nq).testBit p = true ↔ ∃ q, q < nq ∧ a 6 q = p + 1 := by
  intro nq
  induction nq with
  | zero => simp [clS]
  | succ n ih =>
    rw [clS, Nat.testBit_or, Bool.or_eq_true, ih]
    constructor
    · rintro (⟨q, h1, h2⟩ | h)
      · exact ⟨q, by omega, h2⟩
      · refine ⟨n, by omega, ?_⟩
        split at h
        · simp at h
        · rw [Nat.testBit_two_pow, decide_eq_true_eq] at h
          omega
    · rintro ⟨q, h1, h2⟩
      by_cases hq : q = n
      · subst hq
        right
        rw [if_neg (by omega), Nat.testBit_two_pow, decide_eq_true_eq]
        omega
      · exact Or.inl ⟨q, by omega, h2⟩
def WF (a : SA) (np nq : Nat) : Prop :=
  np ≤ 7 ∧ nq ≤ 6 ∧ (∀ p, p < np → a 0 p < 5 ∧ a 1 p < 8 ∧ a 2 p ≤ 60) ∧ (∀ q, q < nq → a 3 q < 8 ∧ a 4 q < 20000 ∧ (1 ≤ a 5 q ∧ a 5 q ≤ 30) ∧ a 6 q ≤ np) ∧ ∀ q q', q < nq → q' < nq → a 6 q = a 6 q' → a 6 q ≠ 0 → q = q'
theorem clS_lt {a : SA} {np nq : Nat} (hW : WF a np nq) : ∀ k, k ≤ nq → clS a k < 2 ^ 7 := by
  intro k
  induction k with
  | zero => intro _; simp [clS]
  | succ n ih =>
    intro h
    rw [clS]
    refine Nat.or_lt_two_pow (ih (by omega)) ?_
    split
    · simp
    · have := hW.2.2.2.1 n (by omega)
      have := hW.1
      exact Nat.pow_lt_pow_right (by omega) (by omega)
def fitB (a : SA) (T p q dep : Nat) : Bool := a 1 p == a 3 q && decide (a 5 q ≤ dep) && !T.testBit p
/-- the deepest fit one of the first k: 0, or its number and 1 -/
def dft (fit : Nat → Bool) (dep : Nat → Nat) : Nat → Nat
  | 0 => 0
  | p + 1 => if fit p && (dft fit dep p == 0 || decide (dep (dft fit dep p - 1) < dep p)) then p + 1 else dft fit dep p
theorem dft_le (fit : Nat → Bool) (dep : Nat → Nat) : ∀ k, dft fit dep k ≤ k := by
  intro k
  induction k with
  | zero => simp [dft]
  | succ k ih => rw [dft]; split <;> omega
def kerb (hr : Nat) : Nat := if hr % 2 = 0 then 4 else 2
def nbd (a : SA) (np p : Nat) : Nat := (if 0 < p ∧ a 2 (p - 1) = 0 then 1 else 0) + (if p + 1 < np ∧ a 2 (p + 1) = 0 then 1 else 0)
def less (a : SA) (np hr p : Nat) : Nat := if a 0 p = 1 then 1 else if a 0 p = 2 then kerb hr else if a 0 p = 3 then (if 30 ≤ a 2 p then 0 else 1) else if a 0 p = 4 then kerb hr + 2 * nbd a np p else 2
def lessen (a : SA) (np hr : Nat) : SA := fun k p => if k = 2 ∧ p < np then a 2 p - less a np hr p else a k p
/-- the claims of an hour, by the first k of the people -/
def lc (a : SA) (np nq hr : Nat) : Nat → SA
  | 0 => a
  | q + 1 => if lc a np nq hr q 6 q = 0 ∧ lc a np nq hr q 4 q ≤ hr then a2 (lc a np nq hr q) 6 q (dft (fun p => fitB (lc a np nq hr q) (clS (lc a np nq hr q) nq) p q (lc a np nq hr q 2 p)) (lc a np nq hr q 2) np) else lc a np nq hr q
def hourS (a : SA) (np nq hr : Nat) : SA := lessen (lc a np nq hr nq) np hr
/-- n hours from hour hr on -/
def hoursN (a : SA) (np nq hr : Nat) : Nat → SA
  | 0 => a
  | k + 1 => hourS (hoursN a np nq hr k) np nq (hr + k)
/-- the street at b: its rows hold a as far as lp, lq; its numbers -/
def SX (σ : Wd) (b : Nat) (a : SA) (lp lq np nq hr dr : Nat) : Prop :=
  σ b = some (.inr (4, [.ref (b + 1), .ref (b + 2), .ref (b + 3), .ref (b + 4), .ref (b + 5), .ref (b + 6), .ref (b + 7), .int (nI np), .int (nI nq), .int (nI hr), .int (nI dr)])) ∧
  (∀ k, k < 3 → ∃ f, σ (b + (1 + k)) = some (.inl (0, 7, .inl f)) ∧ ∀ p, p < lp → f p = nI (a k p)) ∧ (∀ k, k < 3 → ∃ f, σ (b + (4 + k)) = some (.inl (0, 6, .inl f)) ∧ ∀ q, q < lq → f q = nI (a (3 + k) q)) ∧ (∃ f, σ (b + 7) = some (.inl (0, 6, .inl f)) ∧ ∀ q, q < lq → f q = cI (a 6 q))
abbrev St (σ : Wd) (b : Nat) (a : SA) (np nq hr dr : Nat) : Prop := SX σ b a np nq np nq hr dr
/-- what a write leaves: the street as told, all else as it was -/
abbrev SP (b : Nat) (a : SA) (lp lq np nq hr dr : Nat) (σ0 : Wd) : Wd → Prop := fun σ' => SX σ' b a lp lq np nq hr dr ∧ Eqo b 8 σ0 σ'
theorem SX.eqo {σ σ' : Wd} {b b' m : Nat} {a : SA} {lp lq np nq hr dr : Nat} (h : SX σ b a lp lq np nq hr dr) (e : Eqo b' m σ σ') (hb : b + 8 ≤ b' ∨ b' + m ≤ b) : SX σ' b a lp lq np nq hr dr := by
  obtain ⟨h1, h2, h3, h4⟩ := h
  refine ⟨(e b (by omega)).trans h1, fun k hk => ?_, fun k hk => ?_, ?_⟩
  · rw [e _ (by omega)]; exact h2 k hk
  · rw [e _ (by omega)]; exact h3 k hk
  · rw [e _ (by omega)]; exact h4
theorem SX.ext {σ : Wd} {b : Nat} {a a' : SA} {lp lq lp' lq' np nq hr dr : Nat} (h : SX σ b a lp lq np nq hr dr) (hp : lp' ≤ lp) (hq : lq' ≤ lq) (e1 : ∀ k, k < 3 → ∀ p, p < lp' → a' k p = a k p) (e2 : ∀ k, 3 ≤ k → k < 7 → ∀ q, q < lq' → a' k q = a k q) : SX σ b a' lp' lq' np nq hr dr := by
  obtain ⟨h1, h2, h3, h4⟩ := h
  refine ⟨h1, fun k hk => ?_, fun k hk => ?_, ?_⟩
  · obtain ⟨f, f1, f2⟩ := h2 k hk
    exact ⟨f, f1, fun p hp => by rw [e1 k hk p hp]; exact f2 p (by omega)⟩
  · obtain ⟨f, f1, f2⟩ := h3 k hk
    exact ⟨f, f1, fun p hp => by rw [e2 (3 + k) (by omega) (by omega) p hp]; exact f2 p (by omega)⟩
  · obtain ⟨f, f1, f2⟩ := h4
    exact ⟨f, f1, fun p hp => by rw [e2 6 (by omega) (by omega) p hp]; exact f2 p (by omega)⟩
def uN (x : Int32) : Nat := x.toBitVec.toNat
theorem nI_uN (x : Int32) : nI (uN x) = x := by
  unfold nI uN
  apply Int32.toBitVec_inj.mp
  simp
def uC (x : Int32) : Nat := if x = -4 then 0 else uN x + 1
theorem cI_uC (x : Int32) : cI (uC x) = x := by
  unfold uC
  split
  · rename_i h; rw [h]; rfl
  · exact nI_uN x
theorem SX.full {σ : Wd} {b : Nat} {a : SA} {lp lq np nq hr dr : Nat} (h : SX σ b a lp lq np nq hr dr) : ∃ a' : SA, SX σ b a' 7 6 np nq hr dr ∧ (∀ k, k < 3 → ∀ p, p < lp → a' k p = a k p) ∧ (∀ k, 3 ≤ k → k < 7 → ∀ q, q < lq → a' k q = a k q) := by
  obtain ⟨h1, h2, h3, f6, h41, h42⟩ := h
  obtain ⟨f0, h01, h02⟩ := h2 0 (by omega)
  obtain ⟨f1, h11, h12⟩ := h2 1 (by omega)
  obtain ⟨f2, h21, h22⟩ := h2 2 (by omega)
  obtain ⟨f3, h31, h32⟩ := h3 0 (by omega)
  obtain ⟨f4, g41, g42⟩ := h3 1 (by omega)
  obtain ⟨f5, h51, h52⟩ := h3 2 (by omega)
  refine ⟨fun k j => if (k < 3 ∧ j < lp) ∨ (3 ≤ k ∧ j < lq) then a k j else match k with
    | 0 => uN (f0 j)
    | 1 => uN (f1 j)
    | 2 => uN (f2 j)
    | 3 => uN (f3 j)
    | 4 => uN (f4 j)
    | 5 => uN (f5 j)
    | _ => uC (f6 j), ⟨h1, fun k hk => ?_, fun k hk => ?_, f6, h41, fun q _ => ?_⟩, fun k hk p hp => ?_, fun k hk hk2 q hq => ?_⟩
  · rcases (by omega : k = 0 ∨ k = 1 ∨ k = 2) with rfl | rfl | rfl
    · refine ⟨f0, h01, fun p _ => ?_⟩
      by_cases hp : p < lp
      · simp [hp]; exact h02 p hp
      · simp [hp, nI_uN]
    · refine ⟨f1, h11, fun p _ => ?_⟩
      by_cases hp : p < lp
      · simp [hp]; exact h12 p hp
      · simp [hp, nI_uN]
    · refine ⟨f2, h21, fun p _ => ?_⟩
      by_cases hp : p < lp
      · simp [hp]; exact h22 p hp
      · simp [hp, nI_uN]
  · rcases (by omega : k = 0 ∨ k = 1 ∨ k = 2) with rfl | rfl | rfl
    · refine ⟨f3, h31, fun p _ => ?_⟩
      by_cases hp : p < lq
      · simp [hp]; exact h32 p hp
      · simp [hp, nI_uN]
    · refine ⟨f4, g41, fun p _ => ?_⟩
      by_cases hp : p < lq
      · simp [hp]; exact g42 p hp
      · simp [hp, nI_uN]
    · refine ⟨f5, h51, fun p _ => ?_⟩
      by_cases hp : p < lq
      · simp [hp]; exact h52 p hp
      · simp [hp, nI_uN]
  · by_cases hp : q < lq
    · simp [hp]; exact h42 q hp
    · simp [hp, cI_uC]
  · simp only [show (k < 3 ∧ p < lp) ∨ (3 ≤ k ∧ p < lq) from Or.inl ⟨hk, hp⟩, if_true]
  · simp only [show (k < 3 ∧ q < lp) ∨ (3 ≤ k ∧ q < lq) from Or.inr ⟨hk, hq⟩, if_true]
section ST
variable {σ : Wd} {b : Nat} {a : SA} {lp lq np nq hr dr : Nat}

theorem SX.obj (h : SX σ b a lp lq np nq hr dr) : σ b = some (.inr (4, [.ref (b + 1), .ref (b + 2), .ref (b + 3), .ref (b + 4), .ref (b + 5), .ref (b + 6), .ref (b + 7), .int (nI np), .int (nI nq), .int (nI hr), .int (nI dr)])) := h.1
theorem SX.r0 (h : SX σ b a lp lq np nq hr dr) {p : Nat} (hp : p < lp) : ∃ f : Nat → Int32, σ (b + 1) = some (.inl (0, 7, .inl f)) ∧ f p = nI (a 0 p) := (h.2.1 0 (by omega)).elim fun f hf => ⟨f, hf.1, hf.2 p hp⟩
theorem SX.r1 (h : SX σ b a lp lq np nq hr dr) {p : Nat} (hp : p < lp) : ∃ f : Nat → Int32, σ (b + 2) = some (.inl (0, 7, .inl f)) ∧ f p = nI (a 1 p) := (h.2.1 1 (by omega)).elim fun f hf => ⟨f, hf.1, hf.2 p hp⟩
theorem SX.r2 (h : SX σ b a lp lq np nq hr dr) {p : Nat} (hp : p < lp) : ∃ f : Nat → Int32, σ (b + 3) = some (.inl (0, 7, .inl f)) ∧ f p = nI (a 2 p) := (h.2.1 2 (by omega)).elim fun f hf => ⟨f, hf.1, hf.2 p hp⟩
theorem SX.r3 (h : SX σ b a lp lq np nq hr dr) {p : Nat} (hp : p < lq) : ∃ f : Nat → Int32, σ (b + 4) = some (.inl (0, 6, .inl f)) ∧ f p = nI (a 3 p) := (h.2.2.1 0 (by omega)).elim fun f hf => ⟨f, hf.1, hf.2 p hp⟩
theorem SX.r4 (h : SX σ b a lp lq np nq hr dr) {p : Nat} (hp : p < lq) : ∃ f : Nat → Int32, σ (b + 5) = some (.inl (0, 6, .inl f)) ∧ f p = nI (a 4 p) := (h.2.2.1 1 (by omega)).elim fun f hf => ⟨f, hf.1, hf.2 p hp⟩
theorem SX.r5 (h : SX σ b a lp lq np nq hr dr) {p : Nat} (hp : p < lq) : ∃ f : Nat → Int32, σ (b + 6) = some (.inl (0, 6, .inl f)) ∧ f p = nI (a 5 p) := (h.2.2.1 2 (by omega)).elim fun f hf => ⟨f, hf.1, hf.2 p hp⟩
theorem SX.r6 (h : SX σ b a lp lq np nq hr dr) {p : Nat} (hp : p < lq) : ∃ f : Nat → Int32, σ (b + 7) = some (.inl (0, 6, .inl f)) ∧ f p = cI (a 6 p) := (h.2.2.2).elim fun f hf => ⟨f, hf.1, hf.2 p hp⟩
theorem SX.wA (h : SX σ b a lp lq np nq hr dr) (k j x : Nat) (hk : k < 3) : ∃ f : Nat → Int32, σ (b + (1 + k)) = some (.inl (0, 7, .inl f)) ∧ SP b (a2 a k j x) lp lq np nq hr dr σ (rl_up σ (b + (1 + k)) (.inl (0, 7, .inl (upd f j (nI x))))) := by
  obtain ⟨f, h1, h2⟩ := h.2.1 k hk
  refine ⟨f, h1, ⟨?_, fun i hi => ?_, fun i hi => ?_, ?_⟩, Eqo.up (by omega)⟩
  · rw [rl_up_n (by omega)]; exact h.1
  · by_cases e : i = k
    · subst e
      refine ⟨_, rl_up_s, fun p hp => ?_⟩
      by_cases ej : p = j
      · subst ej; rw [pk_us, a2_s]
      · rw [pk_un ej, a2_n (by omega)]; exact h2 p hp
    · rw [rl_up_n (by omega)]
      obtain ⟨g, g1, g2⟩ := h.2.1 i hi
      exact ⟨g, g1, fun p hp => by rw [a2_n (by omega)]; exact g2 p hp⟩
  · rw [rl_up_n (by omega)]
    obtain ⟨g, g1, g2⟩ := h.2.2.1 i hi
    exact ⟨g, g1, fun p hp => by rw [a2_n (by omega)]; exact g2 p hp⟩
  · rw [rl_up_n (by omega)]
    obtain ⟨g, g1, g2⟩ := h.2.2.2
    exact ⟨g, g1, fun p hp => by rw [a2_n (by omega)]; exact g2 p hp⟩
theorem SX.wB (h : SX σ b a lp lq np nq hr dr) (k j x : Nat) (hk : k < 3) : ∃ f : Nat → Int32, σ (b + (4 + k)) = some (.inl (0, 6, .inl f)) ∧ SP b (a2 a (3 + k) j x) lp lq np nq hr dr σ (rl_up σ (b + (4 + k)) (.inl (0, 6, .inl (upd f j (nI x))))) := by
  obtain ⟨f, h1, h2⟩ := h.2.2.1 k hk
  refine ⟨f, h1, ⟨?_, fun i hi => ?_, fun i hi => ?_, ?_⟩, Eqo.up (by omega)⟩
  · rw [rl_up_n (by omega)]; exact h.1
  · rw [rl_up_n (by omega)]
    obtain ⟨g, g1, g2⟩ := h.2.1 i hi
    exact ⟨g, g1, fun p hp => by rw [a2_n (by omega)]; exact g2 p hp⟩
  · by_cases e : i = k
    · subst e
      refine ⟨_, rl_up_s, fun p hp => ?_⟩
      by_cases ej : p = j
      · subst ej; rw [pk_us, a2_s]
      · rw [pk_un ej, a2_n (by omega)]; exact h2 p hp
    · rw [rl_up_n (by omega)]
      obtain ⟨g, g1, g2⟩ := h.2.2.1 i hi
      exact ⟨g, g1, fun p hp => by rw [a2_n (by omega)]; exact g2 p hp⟩
  · rw [rl_up_n (by omega)]
    obtain ⟨g, g1, g2⟩ := h.2.2.2
    exact ⟨g, g1, fun p hp => by rw [a2_n (by omega)]; exact g2 p hp⟩
theorem SX.w6 (h : SX σ b a lp lq np nq hr dr) (j x : Nat) : ∃ f : Nat → Int32, σ (b + 7) = some (.inl (0, 6, .inl f)) ∧ SP b (a2 a 6 j x) lp lq np nq hr dr σ (rl_up σ (b + 7) (.inl (0, 6, .inl (upd f j (cI x))))) := by
  obtain ⟨f, h1, h2⟩ := h.2.2.2
  refine ⟨f, h1, ⟨?_, fun i hi => ?_, fun i hi => ?_, ?_⟩, Eqo.up (by omega)⟩
  · rw [rl_up_n (by omega)]; exact h.1
  · rw [rl_up_n (by omega)]
    obtain ⟨g, g1, g2⟩ := h.2.1 i hi
    exact ⟨g, g1, fun p hp => by rw [a2_n (by omega)]; exact g2 p hp⟩
  · rw [rl_up_n (by omega)]
    obtain ⟨g, g1, g2⟩ := h.2.2.1 i hi
    exact ⟨g, g1, fun p hp => by rw [a2_n (by omega)]; exact g2 p hp⟩
  · refine ⟨_, rl_up_s, fun p hp => ?_⟩
    by_cases ej : p = j
    · subst ej; rw [pk_us, a2_s]
    · rw [pk_un ej, a2_n (by omega)]; exact h2 p hp
theorem SX.w0 (h : SX σ b a lp lq np nq hr dr) (j x : Nat) : ∃ f : Nat → Int32, σ (b + 1) = some (.inl (0, 7, .inl f)) ∧ SP b (a2 a 0 j x) lp lq np nq hr dr σ (rl_up σ (b + 1) (.inl (0, 7, .inl (upd f j (nI x))))) := h.wA 0 j x (by omega)
theorem SX.w1 (h : SX σ b a lp lq np nq hr dr) (j x : Nat) : ∃ f : Nat → Int32, σ (b + 2) = some (.inl (0, 7, .inl f)) ∧ SP b (a2 a 1 j x) lp lq np nq hr dr σ (rl_up σ (b + 2) (.inl (0, 7, .inl (upd f j (nI x))))) := h.wA 1 j x (by omega)
theorem SX.w2 (h : SX σ b a lp lq np nq hr dr) (j x : Nat) : ∃ f : Nat → Int32, σ (b + 3) = some (.inl (0, 7, .inl f)) ∧ SP b (a2 a 2 j x) lp lq np nq hr dr σ (rl_up σ (b + 3) (.inl (0, 7, .inl (upd f j (nI x))))) := h.wA 2 j x (by omega)
theorem SX.w3 (h : SX σ b a lp lq np nq hr dr) (j x : Nat) : ∃ f : Nat → Int32, σ (b + 4) = some (.inl (0, 6, .inl f)) ∧ SP b (a2 a 3 j x) lp lq np nq hr dr σ (rl_up σ (b + 4) (.inl (0, 6, .inl (upd f j (nI x))))) := h.wB 0 j x (by omega)
theorem SX.w4 (h : SX σ b a lp lq np nq hr dr) (j x : Nat) : ∃ f : Nat → Int32, σ (b + 5) = some (.inl (0, 6, .inl f)) ∧ SP b (a2 a 4 j x) lp lq np nq hr dr σ (rl_up σ (b + 5) (.inl (0, 6, .inl (upd f j (nI x))))) := h.wB 1 j x (by omega)
theorem SX.w5 (h : SX σ b a lp lq np nq hr dr) (j x : Nat) : ∃ f : Nat → Int32, σ (b + 6) = some (.inl (0, 6, .inl f)) ∧ SP b (a2 a 5 j x) lp lq np nq hr dr σ (rl_up σ (b + 6) (.inl (0, 6, .inl (upd f j (nI x))))) := h.wB 2 j x (by omega)
theorem SX.num (h : SX σ b a lp lq np nq hr dr) (np' nq' hr' dr' : Nat) : SX (rl_up σ b (.inr (4, [.ref (b + 1), .ref (b + 2), .ref (b + 3), .ref (b + 4), .ref (b + 5), .ref (b + 6), .ref (b + 7), .int (nI np'), .int (nI nq'), .int (nI hr'), .int (nI dr')]))) b a lp lq np' nq' hr' dr' := by
  refine ⟨rl_up_s, fun k hk => ?_, fun k hk => ?_, ?_⟩
  · rw [rl_up_n (by omega)]; exact h.2.1 k hk
  · rw [rl_up_n (by omega)]; exact h.2.2.1 k hk
  · rw [rl_up_n (by omega)]; exact h.2.2.2
theorem SX.p7 (h : SX σ b a lp lq np nq hr dr) (x : Nat) : ∃ fs : List Value, σ b = some (.inr (4, fs)) ∧ 7 < fs.length ∧ SP b a lp lq x nq hr dr σ (rl_up σ b (.inr (4, fs.set 7 (.int (nI x))))) := ⟨_, h.1, Nat.le_of_ble_eq_true rfl, h.num x nq hr dr, Eqo.up (by omega)⟩
theorem SX.p8 (h : SX σ b a lp lq np nq hr dr) (x : Nat) : ∃ fs : List Value, σ b = some (.inr (4, fs)) ∧ 8 < fs.length ∧ SP b a lp lq np x hr dr σ (rl_up σ b (.inr (4, fs.set 8 (.int (nI x))))) := ⟨_, h.1, Nat.le_of_ble_eq_true rfl, h.num np x hr dr, Eqo.up (by omega)⟩
theorem SX.p9 (h : SX σ b a lp lq np nq hr dr) (x : Nat) : ∃ fs : List Value, σ b = some (.inr (4, fs)) ∧ 9 < fs.length ∧ SP b a lp lq np nq x dr σ (rl_up σ b (.inr (4, fs.set 9 (.int (nI x))))) := ⟨_, h.1, Nat.le_of_ble_eq_true rfl, h.num np nq x dr, Eqo.up (by omega)⟩
theorem SX.p10 (h : SX σ b a lp lq np nq hr dr) (x : Nat) : ∃ fs : List Value, σ b = some (.inr (4, fs)) ∧ 10 < fs.length ∧ SP b a lp lq np nq hr x σ (rl_up σ b (.inr (4, fs.set 10 (.int (nI x))))) := ⟨_, h.1, Nat.le_of_ble_eq_true rfl, h.num np nq hr x, Eqo.up (by omega)⟩
end ST
