/-! the reference: its object at 42, its rows behind it -/
def A2 (A : Nat → Nat → Int32) (k j : Nat) (x : Int32) : Nat → Nat → Int32 := fun k' => if k' = k then upd (A k) j x else A k'
def L2 (L : Nat → Nat → Int64) (k j : Nat) (x : Int64) : Nat → Nat → Int64 := fun k' => if k' = k then vp_updL (L k) j x else L k'
theorem A2_s {A : Nat → Nat → Int32} {k j : Nat} {x : Int32} : A2 A k j x k = upd (A k) j x := if_pos rfl
theorem A2_n {A : Nat → Nat → Int32} {k j k' : Nat} {x : Int32} (h : k' ≠ k) : A2 A k j x k' = A k' := if_neg h
theorem L2_s {A : Nat → Nat → Int64} {k j : Nat} {x : Int64} : L2 A k j x k = vp_updL (A k) j x := if_pos rfl
theorem L2_n {A : Nat → Nat → Int64} {k j k' : Nat} {x : Int64} (h : k' ≠ k) : L2 A k j x k' = A k' := if_neg h
abbrev rF (I : Nat → Int32) : List Value := [.ref 43, .ref 44, .ref 45, .int (I 0), .int (I 1), .int (I 2), .ref 46, .ref 47, .ref 48, .int (I 3), .ref 49, .ref 50, .ref 51, .ref 52, .ref 53, .ref 54, .int (I 4), .int (I 5), .ref 55, .ref 56, .ref 57, .ref 58]
def ml (k : Nat) : Nat := match k with
  | 0 => 49
  | 1 => 7
  | 2 => 90
  | 3 => 21
  | 4 => 18
  | 5 => 168
  | 6 => 49
  | 7 => 128
  | 8 => 6
  | 9 => 6
  | 10 => 6
  | 11 => 217
  | 12 => 4
  | _ => 4
def RW (σ : Wd) (A : Nat → Nat → Int32) (L : Nat → Nat → Int64) (I : Nat → Int32) : Prop :=
  σ 42 = some (.inr (7, rF I)) ∧ (∀ k, k < 14 → σ (43 + k) = some (.inl (0, ml k, .inl (A k)))) ∧ σ 57 = some (.inl (1, 96, .inr (.inl (L 0)))) ∧ σ 58 = some (.inl (1, 24, .inr (.inl (L 1))))
section RWS
variable {σ σ' : Wd} {A : Nat → Nat → Int32} {L : Nat → Nat → Int64} {I : Nat → Int32}
theorem RW.wA (h : RW σ A L I) {k j : Nat} {x : Int32} (hk : k < 14) (hX : σ' (43 + k) = some (.inl (0, ml k, .inl (upd (A k) j x)))) (hE : Eqo (43 + k) 1 σ σ') : RW σ' (A2 A k j x) L I := by
  obtain ⟨h1, h2, h3, h4⟩ := h
  refine ⟨(hE _ (by omega)).trans h1, fun i hi => ?_, (hE _ (by omega)).trans h3, (hE _ (by omega)).trans h4⟩
  by_cases e : i = k
  · subst e; rw [A2_s]; exact hX
  · rw [A2_n e, hE _ (by omega)]; exact h2 i hi
theorem RW.ag (h : RW σ A L I) (e : ∀ j, 42 ≤ j → j < 59 → σ' j = σ j) : RW σ' A L I := by
  obtain ⟨h1, h2, h3, h4⟩ := h
  exact ⟨(e _ (by omega) (by omega)).trans h1, fun i hi => (e _ (by omega) (by omega)).trans (h2 i hi), (e _ (by omega) (by omega)).trans h3, (e _ (by omega) (by omega)).trans h4⟩
theorem RW.pI (h : RW σ A L I) {I' : Nat → Int32} (hX : σ' 42 = some (.inr (7, rF I'))) (hE : Eqo 42 1 σ σ') : RW σ' A L I' := by
  obtain ⟨h1, h2, h3, h4⟩ := h
  exact ⟨hX, fun i hi => (hE _ (by omega)).trans (h2 i hi), (hE _ (by omega)).trans h3, (hE _ (by omega)).trans h4⟩
theorem RW.g0 (h : RW σ A L I) : σ 43 = some (.inl (0, 49, .inl (A 0))) := h.2.1 0 (by omega)
theorem RW.w0 (h : RW σ A L I) {j : Nat} {x : Int32} (hX : σ' 43 = some (.inl (0, 49, .inl (upd (A 0) j x)))) (hE : Eqo 43 1 σ σ') : RW σ' (A2 A 0 j x) L I := h.wA (k := 0) (by omega) hX hE
theorem RW.g1 (h : RW σ A L I) : σ 44 = some (.inl (0, 7, .inl (A 1))) := h.2.1 1 (by omega)
theorem RW.w1 (h : RW σ A L I) {j : Nat} {x : Int32} (hX : σ' 44 = some (.inl (0, 7, .inl (upd (A 1) j x)))) (hE : Eqo 44 1 σ σ') : RW σ' (A2 A 1 j x) L I := h.wA (k := 1) (by omega) hX hE
theorem RW.g2 (h : RW σ A L I) : σ 45 = some (.inl (0, 90, .inl (A 2))) := h.2.1 2 (by omega)
theorem RW.w2 (h : RW σ A L I) {j : Nat} {x : Int32} (hX : σ' 45 = some (.inl (0, 90, .inl (upd (A 2) j x)))) (hE : Eqo 45 1 σ σ') : RW σ' (A2 A 2 j x) L I := h.wA (k := 2) (by omega) hX hE
theorem RW.g3 (h : RW σ A L I) : σ 46 = some (.inl (0, 21, .inl (A 3))) := h.2.1 3 (by omega)
theorem RW.w3 (h : RW σ A L I) {j : Nat} {x : Int32} (hX : σ' 46 = some (.inl (0, 21, .inl (upd (A 3) j x)))) (hE : Eqo 46 1 σ σ') : RW σ' (A2 A 3 j x) L I := h.wA (k := 3) (by omega) hX hE
theorem RW.g4 (h : RW σ A L I) : σ 47 = some (.inl (0, 18, .inl (A 4))) := h.2.1 4 (by omega)
theorem RW.w4 (h : RW σ A L I) {j : Nat} {x : Int32} (hX : σ' 47 = some (.inl (0, 18, .inl (upd (A 4) j x)))) (hE : Eqo 47 1 σ σ') : RW σ' (A2 A 4 j x) L I := h.wA (k := 4) (by omega) hX hE
theorem RW.g5 (h : RW σ A L I) : σ 48 = some (.inl (0, 168, .inl (A 5))) := h.2.1 5 (by omega)
theorem RW.w5 (h : RW σ A L I) {j : Nat} {x : Int32} (hX : σ' 48 = some (.inl (0, 168, .inl (upd (A 5) j x)))) (hE : Eqo 48 1 σ σ') : RW σ' (A2 A 5 j x) L I := h.wA (k := 5) (by omega) hX hE
theorem RW.g6 (h : RW σ A L I) : σ 49 = some (.inl (0, 49, .inl (A 6))) := h.2.1 6 (by omega)
theorem RW.w6 (h : RW σ A L I) {j : Nat} {x : Int32} (hX : σ' 49 = some (.inl (0, 49, .inl (upd (A 6) j x)))) (hE : Eqo 49 1 σ σ') : RW σ' (A2 A 6 j x) L I := h.wA (k := 6) (by omega) hX hE
theorem RW.g7 (h : RW σ A L I) : σ 50 = some (.inl (0, 128, .inl (A 7))) := h.2.1 7 (by omega)
theorem RW.w7 (h : RW σ A L I) {j : Nat} {x : Int32} (hX : σ' 50 = some (.inl (0, 128, .inl (upd (A 7) j x)))) (hE : Eqo 50 1 σ σ') : RW σ' (A2 A 7 j x) L I := h.wA (k := 7) (by omega) hX hE
theorem RW.g8 (h : RW σ A L I) : σ 51 = some (.inl (0, 6, .inl (A 8))) := h.2.1 8 (by omega)
theorem RW.w8 (h : RW σ A L I) {j : Nat} {x : Int32} (hX : σ' 51 = some (.inl (0, 6, .inl (upd (A 8) j x)))) (hE : Eqo 51 1 σ σ') : RW σ' (A2 A 8 j x) L I := h.wA (k := 8) (by omega) hX hE
theorem RW.g9 (h : RW σ A L I) : σ 52 = some (.inl (0, 6, .inl (A 9))) := h.2.1 9 (by omega)
theorem RW.w9 (h : RW σ A L I) {j : Nat} {x : Int32} (hX : σ' 52 = some (.inl (0, 6, .inl (upd (A 9) j x)))) (hE : Eqo 52 1 σ σ') : RW σ' (A2 A 9 j x) L I := h.wA (k := 9) (by omega) hX hE
theorem RW.g10 (h : RW σ A L I) : σ 53 = some (.inl (0, 6, .inl (A 10))) := h.2.1 10 (by omega)
theorem RW.w10 (h : RW σ A L I) {j : Nat} {x : Int32} (hX : σ' 53 = some (.inl (0, 6, .inl (upd (A 10) j x)))) (hE : Eqo 53 1 σ σ') : RW σ' (A2 A 10 j x) L I := h.wA (k := 10) (by omega) hX hE
theorem RW.g11 (h : RW σ A L I) : σ 54 = some (.inl (0, 217, .inl (A 11))) := h.2.1 11 (by omega)
theorem RW.w11 (h : RW σ A L I) {j : Nat} {x : Int32} (hX : σ' 54 = some (.inl (0, 217, .inl (upd (A 11) j x)))) (hE : Eqo 54 1 σ σ') : RW σ' (A2 A 11 j x) L I := h.wA (k := 11) (by omega) hX hE
theorem RW.g12 (h : RW σ A L I) : σ 55 = some (.inl (0, 4, .inl (A 12))) := h.2.1 12 (by omega)
theorem RW.w12 (h : RW σ A L I) {j : Nat} {x : Int32} (hX : σ' 55 = some (.inl (0, 4, .inl (upd (A 12) j x)))) (hE : Eqo 55 1 σ σ') : RW σ' (A2 A 12 j x) L I := h.wA (k := 12) (by omega) hX hE
theorem RW.g13 (h : RW σ A L I) : σ 56 = some (.inl (0, 4, .inl (A 13))) := h.2.1 13 (by omega)
theorem RW.w13 (h : RW σ A L I) {j : Nat} {x : Int32} (hX : σ' 56 = some (.inl (0, 4, .inl (upd (A 13) j x)))) (hE : Eqo 56 1 σ σ') : RW σ' (A2 A 13 j x) L I := h.wA (k := 13) (by omega) hX hE
theorem RW.h0 (h : RW σ A L I) : σ 57 = some (.inl (1, 96, .inr (.inl (L 0)))) := h.2.2.1
theorem RW.h1 (h : RW σ A L I) : σ 58 = some (.inl (1, 24, .inr (.inl (L 1)))) := h.2.2.2
theorem RW.v0 (h : RW σ A L I) {j : Nat} {x : Int64} (hX : σ' 57 = some (.inl (1, 96, .inr (.inl (vp_updL (L 0) j x))))) (hE : Eqo 57 1 σ σ') : RW σ' A (L2 L 0 j x) I := by
  obtain ⟨h1, h2, h3, h4⟩ := h
  exact ⟨(hE _ (by omega)).trans h1, fun i hi => (hE _ (by omega)).trans (h2 i hi), hX, (hE _ (by omega)).trans h4⟩
theorem RW.v1 (h : RW σ A L I) {j : Nat} {x : Int64} (hX : σ' 58 = some (.inl (1, 24, .inr (.inl (vp_updL (L 1) j x))))) (hE : Eqo 58 1 σ σ') : RW σ' A (L2 L 1 j x) I := by
  obtain ⟨h1, h2, h3, h4⟩ := h
  exact ⟨(hE _ (by omega)).trans h1, fun i hi => (hE _ (by omega)).trans (h2 i hi), (hE _ (by omega)).trans h3, hX⟩
theorem RW.p0 (h : RW σ A L I) {x : Int32} (hX : σ' 42 = some (.inr (7, (rF I).set 3 (.int x)))) (hE : Eqo 42 1 σ σ') : RW σ' A L (un I 0 x) := h.pI hX hE
theorem RW.p1 (h : RW σ A L I) {x : Int32} (hX : σ' 42 = some (.inr (7, (rF I).set 4 (.int x)))) (hE : Eqo 42 1 σ σ') : RW σ' A L (un I 1 x) := h.pI hX hE
theorem RW.p2 (h : RW σ A L I) {x : Int32} (hX : σ' 42 = some (.inr (7, (rF I).set 5 (.int x)))) (hE : Eqo 42 1 σ σ') : RW σ' A L (un I 2 x) := h.pI hX hE
theorem RW.p3 (h : RW σ A L I) {x : Int32} (hX : σ' 42 = some (.inr (7, (rF I).set 9 (.int x)))) (hE : Eqo 42 1 σ σ') : RW σ' A L (un I 3 x) := h.pI hX hE
theorem RW.p4 (h : RW σ A L I) {x : Int32} (hX : σ' 42 = some (.inr (7, (rF I).set 16 (.int x)))) (hE : Eqo 42 1 σ σ') : RW σ' A L (un I 4 x) := h.pI hX hE
theorem RW.p5 (h : RW σ A L I) {x : Int32} (hX : σ' 42 = some (.inr (7, (rF I).set 17 (.int x)))) (hE : Eqo 42 1 σ σ') : RW σ' A L (un I 5 x) := h.pI hX hE
end RWS
/-- the row of all that is now -/
def NowR (f : Nat → Int32) (a : SA) (np nq hr dr : Nat) : Prop :=
  f 0 = nI np ∧ f 1 = nI nq ∧ f 2 = nI hr ∧ f 3 = nI dr ∧ (∀ k, k < 3 → ∀ p, p < np → f (4 + 3 * p + k) = nI (a k p)) ∧ (∀ k, k < 3 → ∀ q, q < nq → f (25 + 4 * q + k) = nI (a (3 + k) q)) ∧ ∀ q, q < nq → f (25 + 4 * q + 3) = cI (a 6 q)
section NW
variable {f g : Nat → Int32} {a : SA} {np nq hr dr : Nat}
theorem NowR.ag (h : NowR f a np nq hr dr) (hp : np ≤ 7) (hq : nq ≤ 6) (e : ∀ j, j < 49 → g j = f j) : NowR g a np nq hr dr := by
  obtain ⟨h0, h1, h2, h3, h4, h5, h6⟩ := h
  exact ⟨(e _ (by omega)).trans h0, (e _ (by omega)).trans h1, (e _ (by omega)).trans h2, (e _ (by omega)).trans h3, fun k hk p hp => (e _ (by omega)).trans (h4 k hk p hp), fun k hk q hq => (e _ (by omega)).trans (h5 k hk q hq), fun q hq => (e _ (by omega)).trans (h6 q hq)⟩
theorem NowR.ext (h : NowR f a np nq hr dr) {a' : SA} (e1 : ∀ k, k < 3 → ∀ p, p < np → a' k p = a k p) (e2 : ∀ k, 3 ≤ k → k < 7 → ∀ q, q < nq → a' k q = a k q) : NowR f a' np nq hr dr := by
  obtain ⟨h0, h1, h2, h3, h4, h5, h6⟩ := h
  exact ⟨h0, h1, h2, h3, fun k hk p hp => by rw [e1 k hk p hp]; exact h4 k hk p hp, fun k hk q hq => by rw [e2 (3 + k) (by omega) (by omega) q hq]; exact h5 k hk q hq, fun q hq => by rw [e2 6 (by omega) (by omega) q hq]; exact h6 q hq⟩
theorem NowR.wp (h : NowR f a np nq hr dr) {k p x : Nat} (hk : k < 3) (hp : p < 7) : NowR (upd f (4 + 3 * p + k) (nI x)) (a2 a k p x) np nq hr dr := by
  obtain ⟨h0, h1, h2, h3, h4, h5, h6⟩ := h
  refine ⟨by rw [pk_un (by omega)]; exact h0, by rw [pk_un (by omega)]; exact h1, by rw [pk_un (by omega)]; exact h2, by rw [pk_un (by omega)]; exact h3, fun k' hk' p' hp' => ?_, fun k' hk' q hq => ?_, fun q hq => ?_⟩
  · by_cases e : k' = k ∧ p' = p
    · obtain ⟨rfl, rfl⟩ := e; rw [pk_us, a2_s]
    · rw [pk_un (by omega), a2_n e]; exact h4 k' hk' p' hp'
  · rw [pk_un (by omega), a2_n (by omega)]; exact h5 k' hk' q hq
  · rw [pk_un (by omega), a2_n (by omega)]; exact h6 q hq
theorem NowR.wq (h : NowR f a np nq hr dr) (hn : np ≤ 7) {k q x : Nat} (hk : k < 3) : NowR (upd f (25 + 4 * q + k) (nI x)) (a2 a (3 + k) q x) np nq hr dr := by
  obtain ⟨h0, h1, h2, h3, h4, h5, h6⟩ := h
  refine ⟨by rw [pk_un (by omega)]; exact h0, by rw [pk_un (by omega)]; exact h1, by rw [pk_un (by omega)]; exact h2, by rw [pk_un (by omega)]; exact h3, fun k' hk' p' hp' => ?_, fun k' hk' q' hq' => ?_, fun q' hq' => ?_⟩
  · rw [pk_un (by omega), a2_n (by omega)]; exact h4 k' hk' p' hp'
  · by_cases e : k' = k ∧ q' = q
    · obtain ⟨rfl, rfl⟩ := e; rw [pk_us, a2_s]
    · rw [pk_un (by omega), a2_n (by omega)]; exact h5 k' hk' q' hq'
  · rw [pk_un (by omega), a2_n (by omega)]; exact h6 q' hq'
theorem NowR.w6 (h : NowR f a np nq hr dr) (hn : np ≤ 7) {q x : Nat} : NowR (upd f (25 + 4 * q + 3) (cI x)) (a2 a 6 q x) np nq hr dr := by
  obtain ⟨h0, h1, h2, h3, h4, h5, h6⟩ := h
  refine ⟨by rw [pk_un (by omega)]; exact h0, by rw [pk_un (by omega)]; exact h1, by rw [pk_un (by omega)]; exact h2, by rw [pk_un (by omega)]; exact h3, fun k' hk' p' hp' => ?_, fun k' hk' q' hq' => ?_, fun q' hq' => ?_⟩
  · rw [pk_un (by omega), a2_n (by omega)]; exact h4 k' hk' p' hp'
  · rw [pk_un (by omega), a2_n (by omega)]; exact h5 k' hk' q' hq'
  · by_cases e : q' = q
    · subst e; rw [pk_us, a2_s]
    · rw [pk_un (by omega), a2_n (by omega)]; exact h6 q' hq'
theorem NowR.whr (h : NowR f a np nq hr dr) (x : Nat) : NowR (upd f 2 (nI x)) a np nq x dr := by
  obtain ⟨h0, h1, h2, h3, h4, h5, h6⟩ := h
  exact ⟨by rw [pk_un (by omega)]; exact h0, by rw [pk_un (by omega)]; exact h1, pk_us, by rw [pk_un (by omega)]; exact h3, fun k hk p hp => by rw [pk_un (by omega)]; exact h4 k hk p hp, fun k hk q hq => by rw [pk_un (by omega)]; exact h5 k hk q hq, fun q hq => by rw [pk_un (by omega)]; exact h6 q hq⟩
theorem NowR.wdr (h : NowR f a np nq hr dr) (x : Nat) : NowR (upd f 3 (nI x)) a np nq hr x := by
  obtain ⟨h0, h1, h2, h3, h4, h5, h6⟩ := h
  exact ⟨by rw [pk_un (by omega)]; exact h0, by rw [pk_un (by omega)]; exact h1, by rw [pk_un (by omega)]; exact h2, pk_us, fun k hk p hp => by rw [pk_un (by omega)]; exact h4 k hk p hp, fun k hk q hq => by rw [pk_un (by omega)]; exact h5 k hk q hq, fun q hq => by rw [pk_un (by omega)]; exact h6 q hq⟩
theorem NowR.p (h : NowR f a np nq hr dr) {k p : Nat} (hk : k < 3) (hp : p < np) : f (4 + 3 * p + k) = nI (a k p) := h.2.2.2.2.1 k hk p hp
theorem NowR.q (h : NowR f a np nq hr dr) {k q : Nat} (hk : k < 3) (hq : q < nq) : f (25 + 4 * q + k) = nI (a (3 + k) q) := h.2.2.2.2.2.1 k hk q hq
theorem NowR.c (h : NowR f a np nq hr dr) {q : Nat} (hq : q < nq) : f (25 + 4 * q + 3) = cI (a 6 q) := h.2.2.2.2.2.2 q hq
end NW
abbrev RN (σ σ' : Wd) (A : Nat → Nat → Int32) (L : Nat → Nat → Int64) (I : Nat → Int32) (a : SA) (np nq hr dr : Nat) : Prop := ∃ A' : Nat → Nat → Int32, RW σ' A' L I ∧ NowR (A' 0) a np nq hr dr ∧ (∀ k, 2 ≤ k → A' k = A k) ∧ Eqo 42 17 σ σ'
section RV
variable {cx : Cx} {l : Launch} {y : MethodName} {cc : ByteArray} {nL : Nat} {ret : Option FieldType} {d mc ms n0 : Nat} {X : Nat × (Nat → Int32)} {Q : Option Value → Nat → Wd → Prop} {kc ks n : Nat} {σ : Wd} {pc : Nat} {ls : List (Option Value)} {st : List Value}
theorem R.ialdV (hc : cx = (l, y, cc, nL, ret, d, mc, ms, n0, X, Q)) {i m9 j : Nat} {f : Nat → Int32} {v : Int32} (he : σ i = some (.inl (0, m9, .inl f))) (hj : j < m9) (hm : m9 < 2 ^ 31) (hd : decode cc pc = .ok (.iaload, 1)) (hv : f j = v) (k : R cx kc ks n σ (pc + 1) ls (.int v :: st)) : R cx kc ks n σ pc ls (.int (nI j) :: .ref i :: st) := R.iald hc he hj hm hd (by rw [hv]; exact k)
theorem R.laldV (hc : cx = (l, y, cc, nL, ret, d, mc, ms, n0, X, Q)) {i m9 j : Nat} {f : Nat → Int64} {v : Int64} (he : σ i = some (.inl (1, m9, .inr (.inl f)))) (hj : j < m9) (hm : m9 < 2 ^ 31) (hd : decode cc pc = .ok (.laload, 1)) (hv : f j = v) (k : R cx kc ks n σ (pc + 1) ls (.long v :: st)) : R cx kc ks n σ pc ls (.int (nI j) :: .ref i :: st) := R.lald hc he hj hm hd (by rw [hv]; exact k)
end RV
def inL (x lo hi : Int64) : Bool := decide (lo ≤ x ∧ x ≤ hi)
theorem lcmp_lt (x y : Int64) : lg_cmp x y < 0 ↔ x < y := by
  rw [← Int32.not_le, lg_cmp_ge, Int64.not_le]
theorem lcmp_gt (x y : Int64) : 0 < lg_cmp x y ↔ y < x := by
  unfold lg_cmp
  by_cases h1 : y < x
  · simp [h1]
  · by_cases h2 : x = y
    · simp [h2]
    · simp [h1, h2]
theorem inL_R {x : Int32} {lo hi : Nat} (hl : lo < 2 ^ 31) (hh : hi < 2 ^ 31) : inL x.toInt64 (lN lo) (lN hi) = inR x lo hi := by
  unfold inL inR
  simp only [Int64.le_iff_toInt_le, Int32.le_iff_toInt_le, Int32.toInt_toInt64, lN_toInt hl, lN_toInt hh, nI_toInt hl, nI_toInt hh]
theorem inL_I {x : Int32} {k : Nat} (hk : k < 2 ^ 31) : inL x.toInt64 (lN 0) ((nI k) - (nI 1)).toInt64 = inI x k := by
  have h1 : ((nI k) - (nI 1)).toInt = (k : Int) - 1 := by
    rw [Int32.toInt_sub, nI_toInt hk, nI_toInt (by decide), Int.bmod_def]
    split <;> omega
  unfold inL inI
  simp only [Int64.le_iff_toInt_le, Int32.toInt_toInt64, lN_toInt (show 0 < 2 ^ 31 by decide), h1, lt0_toInt, Int32.lt_iff_toInt_lt, nI_toInt hk]
  refine decide_eq_decide.mpr ?_
  have : (0 : Int32).toInt = 0 := by decide
  omega
theorem cI_n4 {c : Nat} (h : c ≤ 1000) : cI c = (-4) ↔ c = 0 := by
  cases c with
  | zero => simp [cI]
  | succ c => simp only [cI]; exact ⟨fun y => absurd y (nI_neg4 (by omega)), fun y => absurd y (by omega)⟩

set_option maxHeartbeats 4000000 in
set_option maxRecDepth 100000 in
theorem c_X7_in (l : Launch) (d : Nat) (X : Nat × (Nat → Int32)) (n : Nat) {σ : Wd} (x lo hi : Int64) : CN l yX7_in cX7_in 6 (some .boolean) (d) X n [.long x, .long lo, .long hi] σ (fun v σ' => v = some (.int (b2 (inL x lo hi))) ∧ σ' = σ) := by
  refine CN.of (by decide) [some (.long x), none, some (.long lo), none, some (.long hi), none] (fun _ => Nat.le_of_ble_eq_true rfl) (fun _ => rfl) (fun cx hc => ?_)
  refine R.lload_n (j := 0) (i := 0) hc rfl rfl dX7_in_0 ?_
  refine R.lload_n (j := 2) (i := 2) hc rfl rfl dX7_in_1 ?_
  refine R.lcmp hc dX7_in_2 ?_
  refine R.if_lt (tgt := 17) hc dX7_in_3 (by decide) (fun q => ?_) (fun q => ?_)
  · refine R.iconst hc ic_0 dX7_in_17 ?_
    have e9 : nI 0 = b2 (inL x lo hi) := by
      have q := (lcmp_lt _ _).mp q
      simp [inL, Int64.not_le.mpr q, b2]; rfl
    exact R.bret hc rfl dX7_in_18 e9 ⟨rfl, congrArg (fun z => some (Value.int z)) e9, rfl⟩
  refine R.lload_n (j := 0) (i := 0) hc rfl rfl dX7_in_6 ?_
  refine R.lload (i := 4) hc rfl dX7_in_7 ?_
  refine R.lcmp hc dX7_in_9 ?_
  refine R.if_gt (tgt := 17) hc dX7_in_10 (by decide) (fun q2 => ?_) (fun q2 => ?_)
  · refine R.iconst hc ic_0 dX7_in_17 ?_
    have e9 : nI 0 = b2 (inL x lo hi) := by
      have q2 := (lcmp_gt _ _).mp q2
      simp [inL, Int64.not_le.mpr q2, b2]; rfl
    exact R.bret hc rfl dX7_in_18 e9 ⟨rfl, congrArg (fun z => some (Value.int z)) e9, rfl⟩
  refine R.iconst hc ic_1 dX7_in_13 ?_
  refine R.goto (tgt := 18) hc dX7_in_14 (by decide) ?_
  have e9 : nI 1 = b2 (inL x lo hi) := by
    have q := fun z => q ((lcmp_lt _ _).mpr z)
    have q2 := fun z => q2 ((lcmp_gt _ _).mpr z)
    simp [inL, Int64.not_lt.mp q, Int64.not_lt.mp q2, b2]; rfl
  exact R.bret hc rfl dX7_in_18 e9 ⟨rfl, congrArg (fun z => some (Value.int z)) e9, rfl⟩
set_option maxHeartbeats 4000000 in
set_option maxRecDepth 100000 in
theorem c_X7_isPuddle (l : Launch) (d : Nat) (X : Nat × (Nat → Int32)) (n : Nat) {σ : Wd} {A : Nat → Nat → Int32} {L : Nat → Nat → Int64} {I : Nat → Int32} (hR : RW σ A L I) {a : SA} {np nq hr dr : Nat} (hN : NowR (A 0) a np nq hr dr) (hW : WF a np nq) (x : Int32) : CN l yX7_isPuddle cX7_isPuddle 2 (some .boolean) ((d + 1)) X n [.ref 42, .int x] σ (fun v σ' => v = some (.int (b2 (inI x np))) ∧ σ' = σ) := by
  refine CN.of (by decide) [some (.ref 42), some (.int x)] (fun _ => Nat.le_of_ble_eq_true rfl) (fun _ => rfl) (fun cx hc => ?_)
  have hW1 := hW.1
  have hW2 := hW.2.1
  have hF : Eqo 42 17 σ σ := Eqo.rf
  refine R.iload_n (j := 1) (i := 1) hc rfl rfl dX7_isPuddle_0 ?_
  refine R.i2l hc dX7_isPuddle_1 ?_
  refine R.lconst (j := 0) (v := lN 0) hc rfl dX7_isPuddle_2 ?_
  refine R.aload_n (j := 0) (i := 0) hc rfl rfl dX7_isPuddle_3 ?_
  refine R.get hc gf_X7_7_r dX7_isPuddle_4 (hR.1) rfl ?_
  refine R.iconst hc ic_0 dX7_isPuddle_7 ?_
  refine R.ialdV hc hR.g0 (by omega) (by decide) dX7_isPuddle_8 (hN.1) ?_
  refine R.iconst hc ic_1 dX7_isPuddle_9 ?_
  first | refine R.isubN hc (by omega) dX7_isPuddle_10 ?_ | refine R.isub hc dX7_isPuddle_10 ?_
  refine R.i2l hc dX7_isPuddle_11 ?_
  refine R.cSr hc m_X7_in lk_X7_59 dX7_isPuddle_12 (c_X7_in l d X n _ _ _) rfl rfl (by omega) ⟨Nat.le_refl _, Nat.le_refl _⟩ (Nat.le_of_ble_eq_true rfl) ?_
  rw [inL_I (by omega)]
  exact R.bret (c := inI x np) hc rfl dX7_isPuddle_15 rfl ⟨rfl, rfl, rfl⟩
set_option maxHeartbeats 4000000 in
set_option maxRecDepth 100000 in
theorem c_X7_isPerson (l : Launch) (d : Nat) (X : Nat × (Nat → Int32)) (n : Nat) {σ : Wd} {A : Nat → Nat → Int32} {L : Nat → Nat → Int64} {I : Nat → Int32} (hR : RW σ A L I) {a : SA} {np nq hr dr : Nat} (hN : NowR (A 0) a np nq hr dr) (hW : WF a np nq) (x : Int32) : CN l yX7_isPerson cX7_isPerson 2 (some .boolean) ((d + 1)) X n [.ref 42, .int x] σ (fun v σ' => v = some (.int (b2 (inI x nq))) ∧ σ' = σ) := by
  refine CN.of (by decide) [some (.ref 42), some (.int x)] (fun _ => Nat.le_of_ble_eq_true rfl) (fun _ => rfl) (fun cx hc => ?_)
  have hW1 := hW.1
  have hW2 := hW.2.1
  have hF : Eqo 42 17 σ σ := Eqo.rf
  refine R.iload_n (j := 1) (i := 1) hc rfl rfl dX7_isPerson_0 ?_
  refine R.i2l hc dX7_isPerson_1 ?_
  refine R.lconst (j := 0) (v := lN 0) hc rfl dX7_isPerson_2 ?_
  refine R.aload_n (j := 0) (i := 0) hc rfl rfl dX7_isPerson_3 ?_
  refine R.get hc gf_X7_7_r dX7_isPerson_4 (hR.1) rfl ?_
  refine R.iconst hc ic_1 dX7_isPerson_7 ?_
  refine R.ialdV hc hR.g0 (by omega) (by decide) dX7_isPerson_8 (hN.2.1) ?_
  refine R.iconst hc ic_1 dX7_isPerson_9 ?_
  first | refine R.isubN hc (by omega) dX7_isPerson_10 ?_ | refine R.isub hc dX7_isPerson_10 ?_
  refine R.i2l hc dX7_isPerson_11 ?_
  refine R.cSr hc m_X7_in lk_X7_59 dX7_isPerson_12 (c_X7_in l d X n _ _ _) rfl rfl (by omega) ⟨Nat.le_refl _, Nat.le_refl _⟩ (Nat.le_of_ble_eq_true rfl) ?_
  rw [inL_I (by omega)]
  exact R.bret (c := inI x nq) hc rfl dX7_isPerson_15 rfl ⟨rfl, rfl, rfl⟩
set_option maxHeartbeats 4000000 in
set_option maxRecDepth 100000 in
theorem c_X7_ofPuddle (l : Launch) (d : Nat) (X : Nat × (Nat → Int32)) (n : Nat) {σ : Wd} {A : Nat → Nat → Int32} {L : Nat → Nat → Int64} {I : Nat → Int32} (hR : RW σ A L I) {p k : Nat} (hp : p < 7) (hk : k < 3) : CN l yX7_ofPuddle cX7_ofPuddle 3 (some .int) (d) X n [.ref 42, .int (nI p), .int (nI k)] σ (fun v σ' => v = some (.int (A 0 (4 + 3 * p + k))) ∧ σ' = σ) := by
  refine CN.of (by decide) [some (.ref 42), some (.int (nI p)), some (.int (nI k))] (fun _ => Nat.le_of_ble_eq_true rfl) (fun _ => rfl) (fun cx hc => ?_)
  refine R.aload_n (j := 0) (i := 0) hc rfl rfl dX7_ofPuddle_0 ?_
  refine R.get hc gf_X7_7_r dX7_ofPuddle_1 (hR.1) rfl ?_
  refine R.iconst hc ic_4 dX7_ofPuddle_4 ?_
  refine R.iconst hc ic_3 dX7_ofPuddle_5 ?_
  refine R.iload_n (j := 1) (i := 1) hc rfl rfl dX7_ofPuddle_6 ?_
  first | refine R.imulN hc dX7_ofPuddle_7 ?_ | refine R.imul hc dX7_ofPuddle_7 ?_
  first | refine R.iaddN hc dX7_ofPuddle_8 ?_ | refine R.iadd hc dX7_ofPuddle_8 ?_
  refine R.iload_n (j := 2) (i := 2) hc rfl rfl dX7_ofPuddle_9 ?_
  first | refine R.iaddN hc dX7_ofPuddle_10 ?_ | refine R.iadd hc dX7_ofPuddle_10 ?_
  refine R.iald hc hR.g0 (by omega) (by decide) dX7_ofPuddle_11 ?_
  exact R.iret hc rfl dX7_ofPuddle_12 ⟨rfl, rfl, rfl⟩
theorem n_X7_ofPuddle (l : Launch) (d : Nat) (X : Nat × (Nat → Int32)) (n : Nat) {σ : Wd} {A : Nat → Nat → Int32} {L : Nat → Nat → Int64} {I : Nat → Int32} (hR : RW σ A L I) {a : SA} {np nq hr dr : Nat} (hN : NowR (A 0) a np nq hr dr) (hW : WF a np nq) {p k : Nat} (hp : p < np) (hk : k < 3) : CN l yX7_ofPuddle cX7_ofPuddle 3 (some .int) d X n [.ref 42, .int (nI p), .int (nI k)] σ (fun v σ' => v = some (.int (nI (a k p))) ∧ σ' = σ) := by
  have h := c_X7_ofPuddle l d X n hR (p := p) (k := k) (by have := hW.1; omega) hk
  rw [hN.p hk hp] at h
  exact h
set_option maxHeartbeats 4000000 in
set_option maxRecDepth 100000 in
theorem c_X7_deep (l : Launch) (d : Nat) (X : Nat × (Nat → Int32)) (n : Nat) {σ : Wd} {A : Nat → Nat → Int32} {L : Nat → Nat → Int64} {I : Nat → Int32} (hR : RW σ A L I) {p : Nat} (hp : p < 7) : CN l yX7_deep cX7_deep 2 (some .int) ((d + 1)) X n [.ref 42, .int (nI p)] σ (fun v σ' => v = some (.int (A 0 (4 + 3 * p + 2))) ∧ σ' = σ) := by
  refine CN.of (by decide) [some (.ref 42), some (.int (nI p))] (fun _ => Nat.le_of_ble_eq_true rfl) (fun _ => rfl) (fun cx hc => ?_)
  refine R.aload_n (j := 0) (i := 0) hc rfl rfl dX7_deep_0 ?_
  refine R.iload_n (j := 1) (i := 1) hc rfl rfl dX7_deep_1 ?_
  refine R.iconst hc ic_2 dX7_deep_2 ?_
  refine R.cVr hc m_X7_ofPuddle lk_X7_63 dX7_deep_3 (c_X7_ofPuddle l d X n hR (k := 2) hp (by omega)) (hR.1) rfl rfl rfl (by omega) ⟨Nat.le_refl _, Nat.le_refl _⟩ (Nat.le_of_ble_eq_true rfl) ?_
  exact R.iret hc rfl dX7_deep_6 ⟨rfl, rfl, rfl⟩
theorem n_X7_deep (l : Launch) (d : Nat) (X : Nat × (Nat → Int32)) (n : Nat) {σ : Wd} {A : Nat → Nat → Int32} {L : Nat → Nat → Int64} {I : Nat → Int32} (hR : RW σ A L I) {a : SA} {np nq hr dr : Nat} (hN : NowR (A 0) a np nq hr dr) (hW : WF a np nq) {p : Nat} (hp : p < np) : CN l yX7_deep cX7_deep 2 (some .int) (d + 1) X n [.ref 42, .int (nI p)] σ (fun v σ' => v = some (.int (nI (a 2 p))) ∧ σ' = σ) := by
  have h := c_X7_deep l d X n hR (p := p) (by have := hW.1; omega)
  rw [hN.p (by omega) hp] at h
  exact h
set_option maxHeartbeats 4000000 in
set_option maxRecDepth 100000 in
theorem c_X7_ofPerson (l : Launch) (d : Nat) (X : Nat × (Nat → Int32)) (n : Nat) {σ : Wd} {A : Nat → Nat → Int32} {L : Nat → Nat → Int64} {I : Nat → Int32} (hR : RW σ A L I) {p k : Nat} (hp : p < 6) (hk : k < 4) : CN l yX7_ofPerson cX7_ofPerson 3 (some .int) (d) X n [.ref 42, .int (nI p), .int (nI k)] σ (fun v σ' => v = some (.int (A 0 (25 + 4 * p + k))) ∧ σ' = σ) := by
  refine CN.of (by decide) [some (.ref 42), some (.int (nI p)), some (.int (nI k))] (fun _ => Nat.le_of_ble_eq_true rfl) (fun _ => rfl) (fun cx hc => ?_)
  refine R.aload_n (j := 0) (i := 0) hc rfl rfl dX7_ofPerson_0 ?_
  refine R.get hc gf_X7_7_r dX7_ofPerson_1 (hR.1) rfl ?_
  refine R.bipush hc bp_25 dX7_ofPerson_4 ?_
  refine R.iconst hc ic_4 dX7_ofPerson_6 ?_
  refine R.iload_n (j := 1) (i := 1) hc rfl rfl dX7_ofPerson_7 ?_
  first | refine R.imulN hc dX7_ofPerson_8 ?_ | refine R.imul hc dX7_ofPerson_8 ?_
  first | refine R.iaddN hc dX7_ofPerson_9 ?_ | refine R.iadd hc dX7_ofPerson_9 ?_
  refine R.iload_n (j := 2) (i := 2) hc rfl rfl dX7_ofPerson_10 ?_
  first | refine R.iaddN hc dX7_ofPerson_11 ?_ | refine R.iadd hc dX7_ofPerson_11 ?_
  refine R.iald hc hR.g0 (by omega) (by decide) dX7_ofPerson_12 ?_
  exact R.iret hc rfl dX7_ofPerson_13 ⟨rfl, rfl, rfl⟩
theorem n_X7_ofPerson (l : Launch) (d : Nat) (X : Nat × (Nat → Int32)) (n : Nat) {σ : Wd} {A : Nat → Nat → Int32} {L : Nat → Nat → Int64} {I : Nat → Int32} (hR : RW σ A L I) {a : SA} {np nq hr dr : Nat} (hN : NowR (A 0) a np nq hr dr) (hW : WF a np nq) {q k : Nat} (hq : q < nq) (hk : k < 3) : CN l yX7_ofPerson cX7_ofPerson 3 (some .int) d X n [.ref 42, .int (nI q), .int (nI k)] σ (fun v σ' => v = some (.int (nI (a (3 + k) q))) ∧ σ' = σ) := by
  have h := c_X7_ofPerson l d X n hR (p := q) (k := k) (by have := hW.2.1; omega) (by omega)
  rw [hN.q hk hq] at h
  exact h
set_option maxHeartbeats 4000000 in
set_option maxRecDepth 100000 in
theorem c_X7_claimed (l : Launch) (d : Nat) (X : Nat × (Nat → Int32)) (n : Nat) {σ : Wd} {A : Nat → Nat → Int32} {L : Nat → Nat → Int64} {I : Nat → Int32} (hR : RW σ A L I) {p : Nat} (hp : p < 6) : CN l yX7_claimed cX7_claimed 2 (some .int) ((d + 1)) X n [.ref 42, .int (nI p)] σ (fun v σ' => v = some (.int (A 0 (25 + 4 * p + 3))) ∧ σ' = σ) := by
  refine CN.of (by decide) [some (.ref 42), some (.int (nI p))] (fun _ => Nat.le_of_ble_eq_true rfl) (fun _ => rfl) (fun cx hc => ?_)
  refine R.aload_n (j := 0) (i := 0) hc rfl rfl dX7_claimed_0 ?_
  refine R.iload_n (j := 1) (i := 1) hc rfl rfl dX7_claimed_1 ?_
  refine R.iconst hc ic_3 dX7_claimed_2 ?_
  refine R.cVr hc m_X7_ofPerson lk_X7_67 dX7_claimed_3 (c_X7_ofPerson l d X n hR (k := 3) hp (by omega)) (hR.1) rfl rfl rfl (by omega) ⟨Nat.le_refl _, Nat.le_refl _⟩ (Nat.le_of_ble_eq_true rfl) ?_
  exact R.iret hc rfl dX7_claimed_6 ⟨rfl, rfl, rfl⟩
theorem n_X7_claimed (l : Launch) (d : Nat) (X : Nat × (Nat → Int32)) (n : Nat) {σ : Wd} {A : Nat → Nat → Int32} {L : Nat → Nat → Int64} {I : Nat → Int32} (hR : RW σ A L I) {a : SA} {np nq hr dr : Nat} (hN : NowR (A 0) a np nq hr dr) (hW : WF a np nq) {q : Nat} (hq : q < nq) : CN l yX7_claimed cX7_claimed 2 (some .int) (d + 1) X n [.ref 42, .int (nI q)] σ (fun v σ' => v = some (.int (cI (a 6 q))) ∧ σ' = σ) := by
  have h := c_X7_claimed l d X n hR (p := q) (by have := hW.2.1; omega)
  rw [hN.c hq] at h
  exact h
def clI (x : Int32) : Int32 := if x < 0 then nI 0 else if nI 60 < x then nI 60 else x
theorem clI_n {x : Nat} (h : x < 2 ^ 31) : clI (nI x) = nI (if 60 < x then 60 else x) := by
  unfold clI
  rw [if_neg (nI_pos h)]
  by_cases q : 60 < x
  · rw [if_pos q, if_pos ((nI_ltI (by decide) h).mpr q)]
  · rw [if_neg q, if_neg (fun z => q ((nI_ltI (by decide) h).mp z))]
theorem clI_s {x y : Nat} (hx : x ≤ 60) (hy : y ≤ 60) : clI (nI x - nI y) = nI (x - y) := by
  have : ∀ x, x < 61 → ∀ y, y < 61 → clI (nI x - nI y) = nI (x - y) := by decide +kernel
  exact this x (by omega) y (by omega)
set_option maxHeartbeats 4000000 in
set_option maxRecDepth 100000 in
theorem c_X7_deeps (l : Launch) (d : Nat) (X : Nat × (Nat → Int32)) (n : Nat) {σ : Wd} {A : Nat → Nat → Int32} {L : Nat → Nat → Int64} {I : Nat → Int32} (hR : RW σ A L I) {p : Nat} (hp : p < 7) (x : Int32) : CN l yX7_deeps cX7_deeps 3 none (d) X n [.ref 42, .int (nI p), .int x] σ (fun v σ' => v = none ∧ (RW σ' (A2 A 0 (4 + 3 * p + 2) (clI x)) L I ∧ Eqo 42 17 σ σ')) := by
  refine CN.of (by decide) [some (.ref 42), some (.int (nI p)), some (.int x)] (fun _ => Nat.le_of_ble_eq_true rfl) (fun _ => rfl) (fun cx hc => ?_)
  have hF : Eqo 42 17 σ σ := Eqo.rf
  refine R.aload_n (j := 0) (i := 0) hc rfl rfl dX7_deeps_0 ?_
  refine R.get hc gf_X7_7_r dX7_deeps_1 (hR.1) rfl ?_
  refine R.iconst hc ic_4 dX7_deeps_4 ?_
  refine R.iconst hc ic_3 dX7_deeps_5 ?_
  refine R.iload_n (j := 1) (i := 1) hc rfl rfl dX7_deeps_6 ?_
  first | refine R.imulN hc dX7_deeps_7 ?_ | refine R.imul hc dX7_deeps_7 ?_
  first | refine R.iaddN hc dX7_deeps_8 ?_ | refine R.iadd hc dX7_deeps_8 ?_
  refine R.iconst hc ic_2 dX7_deeps_9 ?_
  first | refine R.iaddN hc dX7_deeps_10 ?_ | refine R.iadd hc dX7_deeps_10 ?_
  refine R.iload_n (j := 2) (i := 2) hc rfl rfl dX7_deeps_11 ?_
  refine R.if_ge (tgt := 19) hc dX7_deeps_12 (by decide) (fun q => ?_) (fun q => ?_)
  rotate_left
  · rw [clI, if_pos (by rw [Int32.not_le] at q; exact q)] at hc
    refine R.iconst hc ic_0 dX7_deeps_15 ?_
    refine R.goto (tgt := 31) hc dX7_deeps_16 (by decide) ?_
    refine R.iastG hc dX7_deeps_31 hR.g0 (by omega) (by decide) (fun σ hX hE => ?_)
    have hR := hR.w0 hX hE
    have hF := hF.tr (hE.wid (by omega))
    exact R.vret hc rfl dX7_deeps_32 ⟨rfl, rfl, hR, hF⟩
  rw [clI, if_neg (by rw [Int32.not_lt]; exact q)] at hc
  refine R.iload_n (j := 2) (i := 2) hc rfl rfl dX7_deeps_19 ?_
  refine R.bipush hc bp_60 dX7_deeps_20 ?_
  refine R.icmp_le (tgt := 30) hc dX7_deeps_22 (by decide) (fun q2 => ?_) (fun q2 => ?_)
  · rw [if_neg (by rw [Int32.not_lt]; exact q2)] at hc
    refine R.iload_n (j := 2) (i := 2) hc rfl rfl dX7_deeps_30 ?_
    refine R.iastG hc dX7_deeps_31 hR.g0 (by omega) (by decide) (fun σ hX hE => ?_)
    have hR := hR.w0 hX hE
    have hF := hF.tr (hE.wid (by omega))
    exact R.vret hc rfl dX7_deeps_32 ⟨rfl, rfl, hR, hF⟩
  · rw [if_pos (by rw [Int32.not_le] at q2; exact q2)] at hc
    refine R.bipush hc bp_60 dX7_deeps_25 ?_
    refine R.goto (tgt := 31) hc dX7_deeps_27 (by decide) ?_
    refine R.iastG hc dX7_deeps_31 hR.g0 (by omega) (by decide) (fun σ hX hE => ?_)
    have hR := hR.w0 hX hE
    have hF := hF.tr (hE.wid (by omega))
    exact R.vret hc rfl dX7_deeps_32 ⟨rfl, rfl, hR, hF⟩
set_option maxHeartbeats 4000000 in
set_option maxRecDepth 100000 in
theorem c_X7_tells (l : Launch) (d : Nat) (X : Nat × (Nat → Int32)) (n : Nat) {σ : Wd} {A : Nat → Nat → Int32} {L : Nat → Nat → Int64} {I : Nat → Int32} (hR : RW σ A L I) {p k : Nat} (hp : p < 6) (hk : k < 4) (x : Int32) : CN l yX7_tells cX7_tells 4 none (d) X n [.ref 42, .int (nI p), .int x, .int (nI k)] σ (fun v σ' => v = none ∧ (RW σ' (A2 A 0 (25 + 4 * p + k) x) L I ∧ Eqo 42 17 σ σ')) := by
  refine CN.of (by decide) [some (.ref 42), some (.int (nI p)), some (.int x), some (.int (nI k))] (fun _ => Nat.le_of_ble_eq_true rfl) (fun _ => rfl) (fun cx hc => ?_)
  have hF : Eqo 42 17 σ σ := Eqo.rf
  refine R.aload_n (j := 0) (i := 0) hc rfl rfl dX7_tells_0 ?_
  refine R.get hc gf_X7_7_r dX7_tells_1 (hR.1) rfl ?_
  refine R.bipush hc bp_25 dX7_tells_4 ?_
  refine R.iconst hc ic_4 dX7_tells_6 ?_
  refine R.iload_n (j := 1) (i := 1) hc rfl rfl dX7_tells_7 ?_
  first | refine R.imulN hc dX7_tells_8 ?_ | refine R.imul hc dX7_tells_8 ?_
  first | refine R.iaddN hc dX7_tells_9 ?_ | refine R.iadd hc dX7_tells_9 ?_
  refine R.iload_n (j := 3) (i := 3) hc rfl rfl dX7_tells_10 ?_
  first | refine R.iaddN hc dX7_tells_11 ?_ | refine R.iadd hc dX7_tells_11 ?_
  refine R.iload_n (j := 2) (i := 2) hc rfl rfl dX7_tells_12 ?_
  refine R.iastG hc dX7_tells_13 hR.g0 (by omega) (by decide) (fun σ hX hE => ?_)
  have hR := hR.w0 hX hE
  have hF := hF.tr (hE.wid (by omega))
  exact R.vret hc rfl dX7_tells_14 ⟨rfl, rfl, hR, hF⟩
