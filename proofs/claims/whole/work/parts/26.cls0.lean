def inR (x : Int32) (lo hi : Nat) : Bool := decide (nI lo ≤ x ∧ x ≤ nI hi)
def tN (x : Int32) : Nat := x.toNatClampNeg
theorem tN_nI {j : Nat} (h : j < 2 ^ 31) : tN (nI j) = j := nI_clamp h
theorem inR_of {x : Int32} {lo hi : Nat} (hl : lo < 2 ^ 31) (hh : hi < 2 ^ 31) (h : inR x lo hi = true) : ∃ j, x = nI j ∧ lo ≤ j ∧ j ≤ hi ∧ tN x = j := by
  simp only [inR, decide_eq_true_eq] at h
  have h0 : ¬ x < 0 := by
    intro z
    have h1 := Int32.lt_of_le_of_lt h.1 z
    exact nI_pos hl h1
  obtain ⟨j, hj, rfl⟩ := nI_of h0
  exact ⟨j, rfl, (nI_leI hl hj).mp h.1, (nI_leI hj hh).mp h.2, nI_clamp hj⟩
theorem inI_tN {x : Int32} {k : Nat} (hk : k < 2 ^ 31) (h : inI x k = true) : ∃ j, x = nI j ∧ j < k ∧ tN x = j := by
  obtain ⟨j, hj, rfl⟩ := inI_of hk h
  exact ⟨j, rfl, hj, nI_clamp (by omega)⟩
section AG
variable {σ σ' : Wd} {b : Nat}
theorem SX.ag {a : SA} {lp lq np nq hr dr : Nat} (h : SX σ b a lp lq np nq hr dr) (e : ∀ j, b ≤ j → j < b + 8 → σ' j = σ j) : SX σ' b a lp lq np nq hr dr := by
  obtain ⟨h1, h2, h3, h4⟩ := h
  refine ⟨(e b (by omega) (by omega)).trans h1, fun k hk => ?_, fun k hk => ?_, ?_⟩
  · rw [e _ (by omega) (by omega)]; exact h2 k hk
  · rw [e _ (by omega) (by omega)]; exact h3 k hk
  · rw [e _ (by omega) (by omega)]; exact h4
theorem Hi.ag {h : List SN} {np nq : Nat} (hh : Hi σ b h np nq) (e : ∀ j, b ≤ j → j < b + 2 → σ' j = σ j) : Hi σ' b h np nq := by
  obtain ⟨nx, f, h1, h2, h3, h4, h5⟩ := hh
  exact ⟨nx, f, h1, h2, (e _ (by omega) (by omega)).trans h3, (e _ (by omega) (by omega)).trans h4, h5⟩
theorem Hi.o {h : List SN} {np nq : Nat} (hh : Hi σ b h np nq) : ∃ fs, σ b = some (.inr (0, fs)) := by
  obtain ⟨nx, f, h1, h2, h3, h4, h5⟩ := hh
  exact ⟨_, h3⟩
theorem Tp.ag {tp : Nat → Nat} {tl pl : Nat} (h : Tp σ b tp tl pl) (e : ∀ j, b ≤ j → j < b + 2 → σ' j = σ j) : Tp σ' b tp tl pl := by
  obtain ⟨h1, h2⟩ := h
  refine ⟨(e _ (by omega) (by omega)).trans h1, ?_⟩
  rw [e _ (by omega) (by omega)]; exact h2
theorem Sh.ag {ln sz : Nat → Nat} {it : Nat → Nat → Int64} (h : Sh σ b ln sz it) (e : ∀ j, b ≤ j → j < b + 4 → σ' j = σ j) : Sh σ' b ln sz it := by
  obtain ⟨h1, h2, h3, h4⟩ := h
  refine ⟨(e _ (by omega) (by omega)).trans h1, ?_, ?_, ?_⟩
  · rw [e _ (by omega) (by omega)]; exact h2
  · rw [e _ (by omega) (by omega)]; exact h3
  · rw [e _ (by omega) (by omega)]; exact h4
theorem Mt.ag {f : Nat → Int32} {h : Nat → Nat} {T : Nat} (hh : Mt σ b f h T) (e : ∀ j, b ≤ j → j < b + 3 → σ' j = σ j) : Mt σ' b f h T := by
  obtain ⟨h1, h2, h3⟩ := hh
  refine ⟨(e _ (by omega) (by omega)).trans h1, (e _ (by omega) (by omega)).trans h2, ?_⟩
  rw [e _ (by omega) (by omega)]; exact h3
theorem Od.ag {dep : Nat → Nat → Nat} {c bs : Nat → Nat} {np sz hl mo : Nat} (h : Od σ b dep c bs np sz hl mo) (e : ∀ j, b ≤ j → j < b + 4 → σ' j = σ j) : Od σ' b dep c bs np sz hl mo := by
  obtain ⟨h1, h2, h3, h4⟩ := h
  refine ⟨(e _ (by omega) (by omega)).trans h1, ?_, ?_, ?_⟩
  · rw [e _ (by omega) (by omega)]; exact h2
  · rw [e _ (by omega) (by omega)]; exact h3
  · rw [e _ (by omega) (by omega)]; exact h4
end AG
/-- an image: a street, what may be undone of it -/
abbrev IM : Type := Option (SA × Nat × Nat × Nat × Nat × List SN)
def Im (σ : Wd) (im : IM) : Prop := match im with
  | none => (∃ a np nq hr dr, St σ 19 a np nq hr dr) ∧ ∃ h np nq, Hi σ 27 h np nq
  | some q => St σ 19 q.1 q.2.1 q.2.2.1 q.2.2.2.1 q.2.2.2.2.1 ∧ Hi σ 27 q.2.2.2.2.2 q.2.1 q.2.2.1
theorem Im.ag {σ σ' : Wd} {im : IM} (h : Im σ im) (e : ∀ j, 19 ≤ j → j < 29 → σ' j = σ j) : Im σ' im := by
  cases im with
  | none =>
    obtain ⟨⟨a, np, nq, hr, dr, h1⟩, hh, np', nq', h2⟩ := h
    exact ⟨⟨a, np, nq, hr, dr, h1.ag (fun j _ _ => e j (by omega) (by omega))⟩, hh, np', nq', h2.ag (fun j _ _ => e j (by omega) (by omega))⟩
  | some q => exact ⟨h.1.ag (fun j _ _ => e j (by omega) (by omega)), h.2.ag (fun j _ _ => e j (by omega) (by omega))⟩
/-- the object of the class at 0, its cells up to 41 -/
def CA (σ : Wd) (a : SA) (np nq hr dr : Nat) (hs : List SN) (im : IM) (tp : Nat → Nat) (tl : Nat) (ln sz : Nat → Nat) (it : Nat → Nat → Int64) : Prop :=
  σ 0 = some (.inr (6, [.ref 1, .ref 9, .ref 11, .ref 19, .ref 27, .int (b2 im.isSome), .ref 29, .ref 31, .ref 35, .ref 38])) ∧ St σ 1 a np nq hr dr ∧ Hi σ 9 hs np nq ∧ (∃ a' np' nq' hr' dr', St σ 11 a' np' nq' hr' dr') ∧ Im σ im ∧ (∃ pl, Tp σ 29 tp tl pl) ∧ Sh σ 31 ln sz it ∧ (∃ f h T, Mt σ 35 f h T) ∧ ∃ dep c bs np' sz' hl mo, Od σ 38 dep c bs np' sz' hl mo
def WH (hs : List SN) (np nq : Nat) : Prop := ∀ s ∈ hs, WF s.2.2 np nq ∧ s.1 ≤ 9999 ∧ s.2.1 < 2147483648
/-- what holds of every state that calls come to -/
def WI (a : SA) (np nq hr dr : Nat) (hs : List SN) (im : IM) (tp : Nat → Nat) (tl : Nat) (ln sz : Nat → Nat) : Prop :=
  WF a np nq ∧ hr ≤ 9999 ∧ dr < 2147483648 ∧ WH hs np nq ∧ (∀ q, im = some q → WF q.1 q.2.1 q.2.2.1 ∧ q.2.2.2.1 ≤ 9999 ∧ q.2.2.2.2.1 < 2147483648 ∧ WH q.2.2.2.2.2 q.2.1 q.2.2.1) ∧ WT tp tl ∧ WS ln sz
section RD
variable {cx : Cx} {l : Launch} {y : MethodName} {cc : ByteArray} {nL : Nat} {ret : Option FieldType} {d mc ms n0 : Nat} {X : Nat × (Nat → Int32)} {Q : Option Value → Nat → Wd → Prop} {kc ks n : Nat} {σ : Wd} {pc : Nat} {ls : List (Option Value)} {st : List Value}
theorem R.dVi (hc : cx = (l, y, cc, nL, ret, d, mc, ms, n0, X, Q)) {b ci : Nat} {y' : MethodName} {cc' : ByteArray} {nL' : Nat} {ret' : Option FieldType} {d' k9 idx : Nat} {As rest : List Value} {r : Int32} {P : Wd → Prop} (hM : rl_MV y' cc' nL' ret' k9) (hL : Cond.methodLink y.cls idx y' ∈ g_tbl) (hd : decode cc pc = .ok (.invokevirtual idx, 3)) (hC : CN l y' cc' nL' ret' d' X n (.ref b :: As) σ (fun v σ' => v = some (.int r) ∧ P σ')) (hb : ∃ fs, σ b = some (.inr (ci, fs))) (hci : (vwCl[ci]?).map (fun q => q.1) = some y'.cls) (hst : st = As.reverse ++ .ref b :: rest) (hk : As.length = k9) (hdd : d' + 1 ≤ d) (hkm : kc ≤ mc ∧ ks ≤ ms) (hcat : (rest.map fun v => v.category).sum ≤ 8) (kk : ∀ σ', P σ' → R cx kc ks n σ' (pc + 3) ls (.int r :: rest)) : R cx kc ks n σ pc ls st := by
  obtain ⟨fs, hb⟩ := hb
  exact R.cVi hc hM hL hd hC hb hci hst hk hdd hkm hcat kk
theorem R.dVu (hc : cx = (l, y, cc, nL, ret, d, mc, ms, n0, X, Q)) {b ci : Nat} {y' : MethodName} {cc' : ByteArray} {nL' : Nat} {ret' : Option FieldType} {d' k9 idx : Nat} {As rest : List Value} {P : Wd → Prop} (hM : rl_MV y' cc' nL' ret' k9) (hL : Cond.methodLink y.cls idx y' ∈ g_tbl) (hd : decode cc pc = .ok (.invokevirtual idx, 3)) (hC : CN l y' cc' nL' ret' d' X n (.ref b :: As) σ (fun v σ' => v = none ∧ P σ')) (hb : ∃ fs, σ b = some (.inr (ci, fs))) (hci : (vwCl[ci]?).map (fun q => q.1) = some y'.cls) (hst : st = As.reverse ++ .ref b :: rest) (hk : As.length = k9) (hdd : d' + 1 ≤ d) (hkm : kc ≤ mc ∧ ks ≤ ms) (hcat : (rest.map fun v => v.category).sum ≤ 8) (kk : ∀ σ', P σ' → R cx kc ks n σ' (pc + 3) ls rest) : R cx kc ks n σ pc ls st := by
  obtain ⟨fs, hb⟩ := hb
  exact R.cVu hc hM hL hd hC hb hci hst hk hdd hkm hcat kk
end RD
set_option maxHeartbeats 4000000 in
set_option maxRecDepth 100000 in
theorem c_X6_within (l : Launch) (d : Nat) (X : Nat × (Nat → Int32)) (n : Nat) {σ : Wd} (x : Int32) (lo hi : Nat) : CN l yX6_within cX6_within 3 (some .boolean) (d) X n [.int x, .int (nI lo), .int (nI hi)] σ (fun v σ' => v = some (.int (b2 (inR x lo hi))) ∧ σ' = σ) := by
  refine CN.of (by decide) [some (.int x), some (.int (nI lo)), some (.int (nI hi))] (fun _ => Nat.le_of_ble_eq_true rfl) (fun _ => rfl) (fun cx hc => ?_)
  refine R.iload_n (j := 0) (i := 0) hc rfl rfl dX6_within_0 ?_
  refine R.iload_n (j := 1) (i := 1) hc rfl rfl dX6_within_1 ?_
  refine R.icmp_lt (tgt := 14) hc dX6_within_2 (by decide) (fun q => ?_) (fun q => ?_)
  · refine R.iconst hc ic_0 dX6_within_14 ?_
    have e9 : nI 0 = b2 (inR x lo hi) := by
      simp [inR, Int32.not_le.mpr q, b2]; rfl
    exact R.bret hc rfl dX6_within_15 e9 ⟨rfl, congrArg (fun z => some (Value.int z)) e9, rfl⟩
  refine R.iload_n (j := 0) (i := 0) hc rfl rfl dX6_within_5 ?_
  refine R.iload_n (j := 2) (i := 2) hc rfl rfl dX6_within_6 ?_
  refine R.icmp_gt (tgt := 14) hc dX6_within_7 (by decide) (fun q2 => ?_) (fun q2 => ?_)
  · refine R.iconst hc ic_0 dX6_within_14 ?_
    have e9 : nI 0 = b2 (inR x lo hi) := by
      simp [inR, Int32.not_le.mpr q2, b2]; rfl
    exact R.bret hc rfl dX6_within_15 e9 ⟨rfl, congrArg (fun z => some (Value.int z)) e9, rfl⟩
  refine R.iconst hc ic_1 dX6_within_10 ?_
  refine R.goto (tgt := 15) hc dX6_within_11 (by decide) ?_
  have e9 : nI 1 = b2 (inR x lo hi) := by
    simp [inR, Int32.not_lt.mp q, Int32.not_lt.mp q2, b2]; rfl
  exact R.bret hc rfl dX6_within_15 e9 ⟨rfl, congrArg (fun z => some (Value.int z)) e9, rfl⟩
set_option maxHeartbeats 4000000 in
set_option maxRecDepth 100000 in
theorem c_X6_isSight (l : Launch) (d : Nat) (X : Nat × (Nat → Int32)) (n : Nat) {σ : Wd} (x : Int32) : CN l yX6_isSight cX6_isSight 1 (some .boolean) ((d + 1)) X n [.int x] σ (fun v σ' => v = some (.int (b2 (inR x 0 7))) ∧ σ' = σ) := by
  refine CN.of (by decide) [some (.int x)] (fun _ => Nat.le_of_ble_eq_true rfl) (fun _ => rfl) (fun cx hc => ?_)
  refine R.iload_n (j := 0) (i := 0) hc rfl rfl dX6_isSight_0 ?_
  refine R.iconst hc ic_0 dX6_isSight_1 ?_
  refine R.bipush hc bp_7 dX6_isSight_2 ?_
  refine R.cSr hc m_X6_within lk_X6_64 dX6_isSight_4 (c_X6_within l d X n _ _ _) rfl rfl (by omega) ⟨Nat.le_refl _, Nat.le_refl _⟩ (Nat.le_of_ble_eq_true rfl) ?_
  exact R.bret hc rfl dX6_isSight_7 rfl ⟨rfl, rfl, rfl⟩
set_option maxHeartbeats 4000000 in
set_option maxRecDepth 100000 in
theorem c_X6_isComing (l : Launch) (d : Nat) (X : Nat × (Nat → Int32)) (n : Nat) {σ : Wd} (x : Int32) : CN l yX6_isComing cX6_isComing 1 (some .boolean) ((d + 1)) X n [.int x] σ (fun v σ' => v = some (.int (b2 (inR x 0 20))) ∧ σ' = σ) := by
  refine CN.of (by decide) [some (.int x)] (fun _ => Nat.le_of_ble_eq_true rfl) (fun _ => rfl) (fun cx hc => ?_)
  refine R.iload_n (j := 0) (i := 0) hc rfl rfl dX6_isComing_0 ?_
  refine R.iconst hc ic_0 dX6_isComing_1 ?_
  refine R.bipush hc bp_20 dX6_isComing_2 ?_
  refine R.cSr hc m_X6_within lk_X6_64 dX6_isComing_4 (c_X6_within l d X n _ _ _) rfl rfl (by omega) ⟨Nat.le_refl _, Nat.le_refl _⟩ (Nat.le_of_ble_eq_true rfl) ?_
  exact R.bret hc rfl dX6_isComing_7 rfl ⟨rfl, rfl, rfl⟩
