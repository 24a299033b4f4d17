/-! a morning as a text: what is read at a place of a tape tp of tl letters -/
def skp (tp : Nat → Nat) : Nat → Nat → Nat
  | 0, i => i
  | j + 1, i => if tp i = 32 then skp tp j (i + 1) else i
/-- behind blanks -/
def sk (tp : Nat → Nat) (tl i : Nat) : Nat := skp tp (tl - i) i
theorem skp_ge (tp : Nat → Nat) : ∀ j i, i ≤ skp tp j i ∧ skp tp j i ≤ i + j := by
  intro j
  induction j with
  | zero => intro i; simp [skp]
  | succ j ih =>
    intro i
    rw [skp]
    split
    · have := ih (i + 1); omega
    · omega
theorem sk_le {tp : Nat → Nat} {tl i : Nat} (h : i ≤ tl) : i ≤ sk tp tl i ∧ sk tp tl i ≤ tl := by
  have := skp_ge tp (tl - i) i
  unfold sk
  omega
theorem skp_stop (tp : Nat → Nat) : ∀ j i, skp tp j i < i + j → tp (skp tp j i) ≠ 32 := by
  intro j
  induction j with
  | zero => intro i h; simp [skp] at h
  | succ j ih =>
    intro i h
    rw [skp] at h ⊢
    split
    · rename_i hc
      rw [if_pos hc] at h
      exact ih (i + 1) (by omega)
    · rename_i hc
      exact hc
theorem sk_stop {tp : Nat → Nat} {tl i : Nat} (hi : i ≤ tl) (h : sk tp tl i < tl) : tp (sk tp tl i) ≠ 32 := by
  unfold sk at h ⊢
  exact skp_stop tp (tl - i) i (by omega)
theorem sk_step {tp : Nat → Nat} {tl i : Nat} (hi : i < tl) (h : tp i = 32) : sk tp tl i = sk tp tl (i + 1) := by
  unfold sk
  rw [show tl - i = (tl - (i + 1)) + 1 by omega, skp, if_pos h]
theorem sk_here {tp : Nat → Nat} {tl i : Nat} (h : tl ≤ i ∨ tp i ≠ 32) : sk tp tl i = i := by
  unfold sk
  cases hz : tl - i with
  | zero => rfl
  | succ j =>
    rw [skp]
    rcases h with h | h
    · omega
    · rw [if_neg h]
theorem sk_sk {tp : Nat → Nat} {tl i : Nat} (hi : i ≤ tl) : sk tp tl (sk tp tl i) = sk tp tl i := by
  have h := sk_le (tp := tp) hi
  by_cases hz : sk tp tl i < tl
  · exact sk_here (Or.inr (sk_stop hi hz))
  · exact sk_here (Or.inl (by omega))
/-- a digit at this place: 0, or its number and 1 -/
def dgt (tp : Nat → Nat) (tl i : Nat) : Nat := if i < tl ∧ 48 ≤ tp i ∧ tp i ≤ 57 then tp i - 48 + 1 else 0
theorem dgt_le {tp : Nat → Nat} {tl i : Nat} : dgt tp tl i ≤ 10 := by unfold dgt; split <;> omega
theorem dgt_lt {tp : Nat → Nat} {tl i : Nat} (h : dgt tp tl i ≠ 0) : i < tl := by
  unfold dgt at h
  split at h
  · omega
  · exact absurd rfl h
abbrev PR : Type := Nat ⊕ (Nat × Nat)
def kindP (tp : Nat → Nat) (tl i : Nat) : PR := if sk tp tl i < tl then (match kdN (tp (sk tp tl i)) with
  | 0 => .inl (sk tp tl i)
  | k + 1 => .inr (k, sk tp tl i + 1)) else .inl (sk tp tl i)
def sightP (tp : Nat → Nat) (tl i : Nat) : PR := match dgt tp tl (sk tp tl i) with
  | 0 => .inl (sk tp tl i)
  | v + 1 => if v < 8 then .inr (v, sk tp tl i + 1) else .inl (sk tp tl i)
def chkP (lo hi j v e : Nat) : PR := if v < lo ∨ hi < v then .inl j else .inr (v, e)
def numP (tp : Nat → Nat) (tl lo hi i : Nat) : PR := match dgt tp tl (sk tp tl i) with
  | 0 => .inl (sk tp tl i)
  | v + 1 => match dgt tp tl (sk tp tl i + 1) with
    | 0 => chkP lo hi (sk tp tl i) v (sk tp tl i + 1)
    | w + 1 => chkP lo hi (sk tp tl i) (10 * v + w) (sk tp tl i + 2)
def takeB (tp : Nat → Nat) (tl c i : Nat) : Bool := decide (sk tp tl i < tl ∧ tp (sk tp tl i) = c)
/-- where it stands behind a try to take a sign -/
def takeE (tp : Nat → Nat) (tl c i : Nat) : Nat := if takeB tp tl c i then sk tp tl i + 1 else sk tp tl i
theorem kindP_ok {tp : Nat → Nat} {tl i : Nat} {q : Nat × Nat} (hi : i ≤ tl) (h : kindP tp tl i = .inr q) : q.1 < 5 ∧ q.2 ≤ tl := by
  unfold kindP at h
  have hs := sk_le (tp := tp) hi
  have hk : ∀ c, kdN c ≤ 5 := by intro c; unfold kdN; (repeat' split) <;> omega
  have hk := hk (tp (sk tp tl i))
  split at h
  · split at h
    · cases h
    · rename_i e
      cases h
      exact ⟨by show _ < 5; omega, by show _ + 1 ≤ _; omega⟩
  · cases h
theorem sightP_ok {tp : Nat → Nat} {tl i : Nat} {q : Nat × Nat} (h : sightP tp tl i = .inr q) : q.1 < 8 ∧ q.2 ≤ tl := by
  unfold sightP at h
  split at h
  · cases h
  · rename_i v e
    have := dgt_lt (tp := tp) (tl := tl) (i := sk tp tl i) (by omega)
    split at h
    · cases h
      exact ⟨by assumption, this⟩
    · cases h
theorem numP_ok {tp : Nat → Nat} {tl lo hi i : Nat} {q : Nat × Nat} (h : numP tp tl lo hi i = .inr q) : lo ≤ q.1 ∧ q.1 ≤ hi ∧ q.2 ≤ tl := by
  unfold numP at h
  split at h
  · cases h
  · rename_i v e
    have h1 := dgt_lt (tp := tp) (tl := tl) (i := sk tp tl i) (by omega)
    split at h
    · unfold chkP at h
      split at h
      · cases h
      · cases h
        exact ⟨by show lo ≤ v; omega, by show v ≤ hi; omega, by show _ + 1 ≤ _; omega⟩
    · rename_i w e2
      have h2 := dgt_lt (tp := tp) (tl := tl) (i := sk tp tl i + 1) (by omega)
      unfold chkP at h
      split at h
      · cases h
      · cases h
        exact ⟨by show lo ≤ 10 * v + w; omega, by show 10 * v + w ≤ hi; omega, by show _ + 2 ≤ _; omega⟩
theorem takeE_le {tp : Nat → Nat} {tl c i : Nat} (hi : i ≤ tl) : takeE tp tl c i ≤ tl := by
  have := sk_le (tp := tp) hi
  unfold takeE takeB
  split
  · rename_i h; simp at h; omega
  · omega
/-- the puddles of a text: j more at most, k are there -/
def pudP (tp : Nat → Nat) (tl : Nat) : Nat → SA → Nat → Nat → Nat ⊕ (SA × Nat × Nat)
  | 0, a, k, i => .inr (a, k, i)
  | j + 1, a, k, i =>
    if 0 < k ∧ takeB tp tl 44 i = false then .inr (a, k, sk tp tl i) else
    match kindP tp tl (if k = 0 then i else sk tp tl i + 1) with
    | .inl f => .inl f
    | .inr q1 => match sightP tp tl q1.2 with
      | .inl f => .inl f
      | .inr q2 => match numP tp tl 0 60 q2.2 with
        | .inl f => .inl f
        | .inr q3 => pudP tp tl j (a3 a k q1.1 q2.1 q3.1) (k + 1) q3.2
/-- a number behind a sign, or another -/
def behP (tp : Nat → Nat) (tl c lo hi other i : Nat) : PR := if takeB tp tl c i then numP tp tl lo hi (sk tp tl i + 1) else .inr (other, sk tp tl i)
def peoP (tp : Nat → Nat) (tl : Nat) : Nat → SA → Nat → Nat → Nat ⊕ (SA × Nat × Nat)
  | 0, a, k, i => .inr (a, k, i)
  | j + 1, a, k, i =>
    if 0 < k ∧ takeB tp tl 44 i = false then .inr (a, k, sk tp tl i) else
    match sightP tp tl (if k = 0 then i else sk tp tl i + 1) with
    | .inl f => .inl f
    | .inr q1 => match behP tp tl 64 0 20 0 q1.2 with
      | .inl f => .inl f
      | .inr q2 => match behP tp tl 47 1 30 1 q2.2 with
        | .inl f => .inl f
        | .inr q3 => peoP tp tl j (a4 a k q1.1 q2.1 q3.1) (k + 1) q3.2
def finP (tp : Nat → Nat) (tl : Nat) (a : SA) (np nq i : Nat) : Nat ⊕ (SA × Nat × Nat) := if sk tp tl i < tl then .inl (sk tp tl i) else .inr (a, np, nq)
def readP (tp : Nat → Nat) (tl : Nat) : Nat ⊕ (SA × Nat × Nat) := match pudP tp tl 7 (fun _ _ => 0) 0 0 with
  | .inl f => .inl f
  | .inr q => if takeB tp tl 59 q.2.2 then (match peoP tp tl 6 q.1 0 (sk tp tl q.2.2 + 1) with
    | .inl f => .inl f
    | .inr r => finP tp tl r.1 q.2.1 r.2.1 r.2.2) else finP tp tl q.1 q.2.1 0 (sk tp tl q.2.2)
theorem behP_ok {tp : Nat → Nat} {tl c lo hi other i : Nat} {q : Nat × Nat} (hi' : i ≤ tl) (ho : lo ≤ other ∧ other ≤ hi) (h : behP tp tl c lo hi other i = .inr q) : lo ≤ q.1 ∧ q.1 ≤ hi ∧ q.2 ≤ tl := by
  unfold behP at h
  split at h
  · exact numP_ok h
  · cases h
    exact ⟨ho.1, ho.2, (sk_le hi').2⟩
def fI (i : Nat) : Int32 := (-20) - nI i
theorem fI_neg {i : Nat} (h : i ≤ 1000) : fI i < 0 := by
  rw [Int32.lt_iff_toInt_lt]
  unfold fI
  have h1 : (-20 : Int32) = -nI 20 := by decide
  have e : (-20 : Int32) - nI i = -(nI (20 + i)) := by
    rw [h1, ← nI_add]
    simp [Int32.sub_eq_add_neg, Int32.neg_add]
  rw [e]
  have h2 : (nI (20 + i)).toInt = ((20 + i : Nat) : Int) := nI_toInt (by omega)
  rw [Int32.toInt_neg, h2]
  have : (-((20 + i : Nat) : Int)).bmod (2 ^ 32) = -((20 + i : Nat) : Int) := by
    apply Int.bmod_eq_of_le <;> omega
  rw [this]
  show _ < (0 : Int)
  omega
def resI (r : PR) : Int32 := match r with
  | .inl j => fI j
  | .inr q => nI q.1
