/-- a contract that makes no cell -/
def CN (l : Launch) (y : MethodName) (cc : ByteArray) (nL : Nat) (ret : Option FieldType) (d : Nat) (X : Nat × (Nat → Int32)) (n : Nat) (args : List Value) (σ : Wd) (q : Option Value → Wd → Prop) : Prop := Con l y cc nL ret d 0 0 X n args σ (fun v n' σ' => n' = n ∧ q v σ')
/-- nothing has changed outside m cells from b on -/
def Eqo (b m : Nat) (σ σ' : Wd) : Prop := ∀ j, (j < b ∨ b + m ≤ j) → σ' j = σ j
theorem Eqo.rf {b m : Nat} {σ : Wd} : Eqo b m σ σ := fun _ _ => rfl
theorem Eqo.tr {b m : Nat} {σ σ' σ'' : Wd} (h : Eqo b m σ σ') (h' : Eqo b m σ' σ'') : Eqo b m σ σ'' := fun j hj => (h' j hj).trans (h j hj)
theorem Eqo.up {b m i : Nat} {σ : Wd} {c : PE} (hi : b ≤ i ∧ i < b + m) : Eqo b m σ (rl_up σ i c) := fun j hj => rl_up_n (by omega)
theorem Eqo.wid {b m b' m' : Nat} {σ σ' : Wd} (h : Eqo b m σ σ') (hb : b' ≤ b ∧ b + m ≤ b' + m') : Eqo b' m' σ σ' := fun j hj => h j (by omega)
theorem rl_down {P : Nat → Prop} (k : Nat) (h0 : P k) (hs : ∀ p, p < k → P (p + 1) → P p) : ∀ p, p ≤ k → P p := by
  intro p hp
  obtain ⟨j, rfl⟩ : ∃ j, k = p + j := ⟨k - p, by omega⟩
  induction j generalizing p with
  | zero => exact h0
  | succ j ih => exact hs p (by omega) (ih (p + 1) (by rw [show p + 1 + j = p + (j + 1) by omega]; exact h0) (fun q hq => hs q (by omega)) (by omega))
theorem nI_or (a b : Nat) : nI a ||| nI b = nI (a ||| b) := by
  unfold nI
  apply Int32.toBitVec_inj.mp
  simp
theorem nI_and (a b : Nat) : nI a &&& nI b = nI (a &&& b) := by
  unfold nI
  apply Int32.toBitVec_inj.mp
  simp
theorem nI_xor (a b : Nat) : nI a ^^^ nI b = nI (a ^^^ b) := by
  unfold nI
  apply Int32.toBitVec_inj.mp
  simp
theorem nI_neg4 {j : Nat} (h : j < 2 ^ 31) : ¬ nI j = -4 := by
  intro e
  have := congrArg Int32.toInt e
  rw [nI_toInt h] at this
  have h4 : (-4 : Int32).toInt = -4 := by decide
  omega
section RB
variable {cx : Cx} {l : Launch} {y : MethodName} {cc : ByteArray} {nL : Nat} {ret : Option FieldType} {d mc ms n0 : Nat} {X : Nat × (Nat → Int32)} {Q : Option Value → Nat → Wd → Prop} {kc ks n : Nat} {σ : Wd} {pc : Nat} {ls : List (Option Value)} {st : List Value}
theorem CN.of {args : List Value} {q : Option Value → Wd → Prop} (hy : plainName y.cls = true) (ls : List (Option Value)) (hlen : ∀ E, (lg_sl (args.map (rl_tv E))).length ≤ nL) (hls : ∀ E, rl_tl E 0 ls = lv_args 0 (args.map (rl_tv E)))
    (k : ∀ cx : Cx, cx = (l, y, cc, nL, ret, d, 0, 0, n, X, (fun v n' σ' => n' = n ∧ q v σ')) → R cx 0 0 n σ 0 ls []) : CN l y cc nL ret d X n args σ q := Con.of hy ls hlen hls k
theorem R.ialdE (hc : cx = (l, y, cc, nL, ret, d, mc, ms, n0, X, Q)) {i m9 j : Nat} {x : Int32} (hd : decode cc pc = .ok (.iaload, 1)) (he : ∃ f : Nat → Int32, σ i = some (.inl (0, m9, .inl f)) ∧ f j = x) (hj : j < m9) (hm : m9 < 2 ^ 31) (k : R cx kc ks n σ (pc + 1) ls (.int x :: st)) : R cx kc ks n σ pc ls (.int (nI j) :: .ref i :: st) := by
  obtain ⟨f, h1, h2⟩ := he
  exact R.iald hc h1 hj hm hd (by rw [h2]; exact k)
theorem R.iastW (hc : cx = (l, y, cc, nL, ret, d, mc, ms, n0, X, Q)) {i m9 j : Nat} {x : Int32} {P : Wd → Prop} (hd : decode cc pc = .ok (.iastore, 1)) (he : ∃ f : Nat → Int32, σ i = some (.inl (0, m9, .inl f)) ∧ P (rl_up σ i (.inl (0, m9, .inl (upd f j x))))) (hj : j < m9) (hm : m9 < 2 ^ 31) (k : ∀ σ', P σ' → R cx kc ks n σ' (pc + 1) ls st) : R cx kc ks n σ pc ls (.int x :: .int (nI j) :: .ref i :: st) := by
  obtain ⟨f, h1, h2⟩ := he
  exact R.iast hc h1 hj hm hd (k _ h2)
theorem R.putW (hc : cx = (l, y, cc, nL, ret, d, mc, ms, n0, X, Q)) {i idx ci k : Nat} {ty : FieldType} {v : Value} {P : Wd → Prop} (hg : rl_GF y.cls idx ci k false ty) (hd : decode cc pc = .ok (.putfield idx, 3)) (he : ∃ fs : List Value, σ i = some (.inr (ci, fs)) ∧ k < fs.length ∧ P (rl_up σ i (.inr (ci, fs.set k v)))) (hn : ∀ E, narrow ty (rl_tv E v) = rl_tv E v) (hfit : ∀ E, fits ty (rl_tv E v) = true) (kk : ∀ σ', P σ' → R cx kc ks n σ' (pc + 3) ls st) : R cx kc ks n σ pc ls (v :: .ref i :: st) := by
  obtain ⟨fs, h1, h2, h3⟩ := he
  exact R.putf hc hg h1 h2 hn hfit rfl hd (kk _ h3)
theorem R.copyW (hc : cx = (l, y, cc, nL, ret, d, mc, ms, n0, X, Q)) {idx i0 i1 m0 m1 sp dp j : Nat} {P : Wd → Prop} (hw : Cond.methodLink y.cls idx arraycopyName ∈ g_tbl) (hd : decode cc pc = .ok (.invokestatic idx, 3)) (h : ∃ f g : Nat → Int32, σ i0 = some (.inl (0, m0, .inl f)) ∧ σ i1 = some (.inl (0, m1, .inl g)) ∧ P (rl_up σ i1 (.inl (0, m1, .inl (va_cpy f g sp dp j))))) (ha : sp + j ≤ m0) (hb : dp + j ≤ m1) (hm0 : m0 < 2 ^ 31) (hm1 : m1 < 2 ^ 31) (hd1 : 1 ≤ d) (hcat : (st.map fun v => v.category).sum ≤ 8) (k : ∀ σ', P σ' → R cx kc ks n σ' (pc + 3) ls st) : R cx kc ks n σ pc ls (.int (nI j) :: .int (nI dp) :: .ref i1 :: .int (nI sp) :: .ref i0 :: st) := by
  obtain ⟨f, g, h1, h2, h3⟩ := h
  exact R.copyi hc hw h1 h2 ha hb hm0 hm1 hd1 hcat hd (k _ h3)
theorem R.top {x x' : Int32} (h : x = x') (k : R cx kc ks n σ pc ls (.int x' :: st)) : R cx kc ks n σ pc ls (.int x :: st) := h ▸ k
theorem R.iaddN (hc : cx = (l, y, cc, nL, ret, d, mc, ms, n0, X, Q)) {a b : Nat} (hd : decode cc pc = .ok (.iadd, 1)) (k : R cx kc ks n σ (pc + 1) ls (.int (nI (a + b)) :: st)) : R cx kc ks n σ pc ls (.int (nI b) :: .int (nI a) :: st) := R.iadd hc hd (by rw [nI_add]; exact k)
theorem R.imulN (hc : cx = (l, y, cc, nL, ret, d, mc, ms, n0, X, Q)) {a b : Nat} (hd : decode cc pc = .ok (.imul, 1)) (k : R cx kc ks n σ (pc + 1) ls (.int (nI (a * b)) :: st)) : R cx kc ks n σ pc ls (.int (nI b) :: .int (nI a) :: st) := R.imul hc hd (by rw [pk_mul]; exact k)
theorem R.isubN (hc : cx = (l, y, cc, nL, ret, d, mc, ms, n0, X, Q)) {a b : Nat} (h : b ≤ a) (hd : decode cc pc = .ok (.isub, 1)) (k : R cx kc ks n σ (pc + 1) ls (.int (nI (a - b)) :: st)) : R cx kc ks n σ pc ls (.int (nI b) :: .int (nI a) :: st) := R.isub hc hd (by rw [pk_sub h]; exact k)
theorem R.iorN (hc : cx = (l, y, cc, nL, ret, d, mc, ms, n0, X, Q)) {a b : Nat} (hd : decode cc pc = .ok (.ior, 1)) (k : R cx kc ks n σ (pc + 1) ls (.int (nI (a ||| b)) :: st)) : R cx kc ks n σ pc ls (.int (nI b) :: .int (nI a) :: st) := R.ior hc hd (by rw [nI_or]; exact k)
theorem R.iandN (hc : cx = (l, y, cc, nL, ret, d, mc, ms, n0, X, Q)) {a b : Nat} (hd : decode cc pc = .ok (.iand, 1)) (k : R cx kc ks n σ (pc + 1) ls (.int (nI (a &&& b)) :: st)) : R cx kc ks n σ pc ls (.int (nI b) :: .int (nI a) :: st) := R.iand hc hd (by rw [nI_and]; exact k)
theorem R.ixorN (hc : cx = (l, y, cc, nL, ret, d, mc, ms, n0, X, Q)) {a b : Nat} (hd : decode cc pc = .ok (.ixor, 1)) (k : R cx kc ks n σ (pc + 1) ls (.int (nI (a ^^^ b)) :: st)) : R cx kc ks n σ pc ls (.int (nI b) :: .int (nI a) :: st) := R.ixor hc hd (by rw [nI_xor]; exact k)
theorem rl_sm {b : Nat} (h : b < 32) : ((nI b &&& 31).toBitVec.smod 32).toNat = b := by
  have : ∀ b, b < 32 → ((nI b &&& 31).toBitVec.smod 32).toNat = b := by decide +kernel
  exact this b h
theorem R.ishlN (hc : cx = (l, y, cc, nL, ret, d, mc, ms, n0, X, Q)) {a b : Nat} (hb : b < 32) (ha : a * 2 ^ b < 2 ^ 32) (hd : decode cc pc = .ok (.ishl, 1)) (k : R cx kc ks n σ (pc + 1) ls (.int (nI (a * 2 ^ b)) :: st)) : R cx kc ks n σ pc ls (.int (nI b) :: .int (nI a) :: st) := R.ishl hc hd (by rw [pk_shlN _ b (rl_sm hb) ha]; exact k)
theorem R.ishrN (hc : cx = (l, y, cc, nL, ret, d, mc, ms, n0, X, Q)) {a b : Nat} (hb : b < 32) (ha : a < 2 ^ 31) (hd : decode cc pc = .ok (.ishr, 1)) (k : R cx kc ks n σ (pc + 1) ls (.int (nI (a / 2 ^ b)) :: st)) : R cx kc ks n σ pc ls (.int (nI b) :: .int (nI a) :: st) := R.ishr hc hd (by rw [pk_shrN ha _ b (rl_sm hb)]; exact k)
theorem R.idivN (hc : cx = (l, y, cc, nL, ret, d, mc, ms, n0, X, Q)) {a b : Nat} (ha : a < 2 ^ 31) (hb0 : 0 < b) (hb : b < 2 ^ 31) (hd : decode cc pc = .ok (.idiv, 1)) (k : R cx kc ks n σ (pc + 1) ls (.int (nI (a / b)) :: st)) : R cx kc ks n σ pc ls (.int (nI b) :: .int (nI a) :: st) := R.idiv hc (nI_ne0 hb0 hb) hd (by rw [pk_div ha hb0 hb]; exact k)
theorem R.iremN (hc : cx = (l, y, cc, nL, ret, d, mc, ms, n0, X, Q)) {a b : Nat} (ha : a < 2 ^ 31) (hb0 : 0 < b) (hb : b < 2 ^ 31) (hd : decode cc pc = .ok (.irem, 1)) (k : R cx kc ks n σ (pc + 1) ls (.int (nI (a % b)) :: st)) : R cx kc ks n σ pc ls (.int (nI b) :: .int (nI a) :: st) := R.irem hc (nI_ne0 hb0 hb) hd (by rw [pk_rem ha hb0 hb]; exact k)

theorem R.icmpN_eq (hc : cx = (l, y, cc, nL, ret, d, mc, ms, n0, X, Q)) {a b : Nat} {off : Int} {tgt : Nat} (hd : decode cc pc = .ok (.if_icmp .eq off, 3)) (ht : (pc : Int) + off = (tgt : Int)) (ha : a < 2 ^ 31) (hb : b < 2 ^ 31) (kt : a = b → R cx kc ks n σ tgt ls st) (kf : ¬ a = b → R cx kc ks n σ (pc + 3) ls st) : R cx kc ks n σ pc ls (.int (nI b) :: .int (nI a) :: st) := R.icmp_eq hc hd ht (fun q => kt ((nI_eq ha hb).mp q)) (fun q => kf (fun e => q ((nI_eq ha hb).mpr e)))
theorem R.icmpN_ne (hc : cx = (l, y, cc, nL, ret, d, mc, ms, n0, X, Q)) {a b : Nat} {off : Int} {tgt : Nat} (hd : decode cc pc = .ok (.if_icmp .ne off, 3)) (ht : (pc : Int) + off = (tgt : Int)) (ha : a < 2 ^ 31) (hb : b < 2 ^ 31) (kt : ¬ a = b → R cx kc ks n σ tgt ls st) (kf : a = b → R cx kc ks n σ (pc + 3) ls st) : R cx kc ks n σ pc ls (.int (nI b) :: .int (nI a) :: st) := R.icmp_ne hc hd ht (fun q => kt (fun e => q ((nI_eq ha hb).mpr e))) (fun q => kf ((nI_eq ha hb).mp q))
theorem R.icmpN_lt (hc : cx = (l, y, cc, nL, ret, d, mc, ms, n0, X, Q)) {a b : Nat} {off : Int} {tgt : Nat} (hd : decode cc pc = .ok (.if_icmp .lt off, 3)) (ht : (pc : Int) + off = (tgt : Int)) (ha : a < 2 ^ 31) (hb : b < 2 ^ 31) (kt : a < b → R cx kc ks n σ tgt ls st) (kf : ¬ a < b → R cx kc ks n σ (pc + 3) ls st) : R cx kc ks n σ pc ls (.int (nI b) :: .int (nI a) :: st) := R.icmp_lt hc hd ht (fun q => kt ((nI_ltI ha hb).mp q)) (fun q => kf (fun e => q ((nI_ltI ha hb).mpr e)))
theorem R.icmpN_ge (hc : cx = (l, y, cc, nL, ret, d, mc, ms, n0, X, Q)) {a b : Nat} {off : Int} {tgt : Nat} (hd : decode cc pc = .ok (.if_icmp .ge off, 3)) (ht : (pc : Int) + off = (tgt : Int)) (ha : a < 2 ^ 31) (hb : b < 2 ^ 31) (kt : b ≤ a → R cx kc ks n σ tgt ls st) (kf : ¬ b ≤ a → R cx kc ks n σ (pc + 3) ls st) : R cx kc ks n σ pc ls (.int (nI b) :: .int (nI a) :: st) := R.icmp_ge hc hd ht (fun q => kt ((nI_leI hb ha).mp q)) (fun q => kf (fun e => q ((nI_leI hb ha).mpr e)))
theorem R.icmpN_gt (hc : cx = (l, y, cc, nL, ret, d, mc, ms, n0, X, Q)) {a b : Nat} {off : Int} {tgt : Nat} (hd : decode cc pc = .ok (.if_icmp .gt off, 3)) (ht : (pc : Int) + off = (tgt : Int)) (ha : a < 2 ^ 31) (hb : b < 2 ^ 31) (kt : b < a → R cx kc ks n σ tgt ls st) (kf : ¬ b < a → R cx kc ks n σ (pc + 3) ls st) : R cx kc ks n σ pc ls (.int (nI b) :: .int (nI a) :: st) := R.icmp_gt hc hd ht (fun q => kt ((nI_ltI hb ha).mp q)) (fun q => kf (fun e => q ((nI_ltI hb ha).mpr e)))
theorem R.icmpN_le (hc : cx = (l, y, cc, nL, ret, d, mc, ms, n0, X, Q)) {a b : Nat} {off : Int} {tgt : Nat} (hd : decode cc pc = .ok (.if_icmp .le off, 3)) (ht : (pc : Int) + off = (tgt : Int)) (ha : a < 2 ^ 31) (hb : b < 2 ^ 31) (kt : a ≤ b → R cx kc ks n σ tgt ls st) (kf : ¬ a ≤ b → R cx kc ks n σ (pc + 3) ls st) : R cx kc ks n σ pc ls (.int (nI b) :: .int (nI a) :: st) := R.icmp_le hc hd ht (fun q => kt ((nI_leI ha hb).mp q)) (fun q => kf (fun e => q ((nI_leI ha hb).mpr e)))
theorem R.ifN_eq (hc : cx = (l, y, cc, nL, ret, d, mc, ms, n0, X, Q)) {a : Nat} {off : Int} {tgt : Nat} (hd : decode cc pc = .ok (.ifCond .eq off, 3)) (ht : (pc : Int) + off = (tgt : Int)) (ha : a < 2 ^ 31) (kt : a = 0 → R cx kc ks n σ tgt ls st) (kf : ¬ a = 0 → R cx kc ks n σ (pc + 3) ls st) : R cx kc ks n σ pc ls (.int (nI a) :: st) := R.if_eq hc hd ht (fun q => kt (Nat.eq_zero_of_not_pos (fun h => nI_ne0 h ha q))) (fun q => kf (fun e => q (by rw [e]; rfl)))
theorem R.ifN_ne (hc : cx = (l, y, cc, nL, ret, d, mc, ms, n0, X, Q)) {a : Nat} {off : Int} {tgt : Nat} (hd : decode cc pc = .ok (.ifCond .ne off, 3)) (ht : (pc : Int) + off = (tgt : Int)) (ha : a < 2 ^ 31) (kt : ¬ a = 0 → R cx kc ks n σ tgt ls st) (kf : a = 0 → R cx kc ks n σ (pc + 3) ls st) : R cx kc ks n σ pc ls (.int (nI a) :: st) := R.if_ne hc hd ht (fun q => kt (fun e => q (by rw [e]; rfl))) (fun q => kf (Nat.eq_zero_of_not_pos (fun h => nI_ne0 h ha q)))
/-- a truth as the machine has it -/
def b2 (c : Bool) : Int32 := if c then 1 else 0
theorem b2_t : b2 true = 1 := rfl
theorem b2_f : b2 false = 0 := rfl
theorem b2_nar (c : Bool) : narrow .boolean (.int (b2 c)) = .int (b2 c) := by cases c <;> rfl
theorem R.ifB_eq (hc : cx = (l, y, cc, nL, ret, d, mc, ms, n0, X, Q)) {c : Bool} {off : Int} {tgt : Nat} (hd : decode cc pc = .ok (.ifCond .eq off, 3)) (ht : (pc : Int) + off = (tgt : Int)) (kt : c = false → R cx kc ks n σ tgt ls st) (kf : c = true → R cx kc ks n σ (pc + 3) ls st) : R cx kc ks n σ pc ls (.int (b2 c) :: st) := R.if_eq hc hd ht (fun q => kt (by cases c; rfl; exact absurd q (by decide))) (fun q => kf (by cases c; exact absurd rfl q; rfl))
theorem R.ifB_ne (hc : cx = (l, y, cc, nL, ret, d, mc, ms, n0, X, Q)) {c : Bool} {off : Int} {tgt : Nat} (hd : decode cc pc = .ok (.ifCond .ne off, 3)) (ht : (pc : Int) + off = (tgt : Int)) (kt : c = true → R cx kc ks n σ tgt ls st) (kf : c = false → R cx kc ks n σ (pc + 3) ls st) : R cx kc ks n σ pc ls (.int (b2 c) :: st) := R.if_ne hc hd ht (fun q => kt (by cases c; exact absurd rfl q; rfl)) (fun q => kf (by cases c; rfl; exact absurd q (by decide)))
theorem R.bret (hc : cx = (l, y, cc, nL, ret, d, mc, ms, n0, X, Q)) {v : Int32} {c : Bool} (hr : ret = some .boolean) (hd : decode cc pc = .ok (.ireturn, 1)) (hv : v = b2 c) (hq : Q (some (.int v)) n σ) : R cx mc ms n σ pc ls [.int v] := R.zret hc hr (by rw [hv]; exact b2_nar c) hd hq
theorem R.cVg (hc : cx = (l, y, cc, nL, ret, d, mc, ms, n0, X, Q)) {b ci : Nat} {fs : List Value} {y' : MethodName} {cc' : ByteArray} {nL' : Nat} {ret' : Option FieldType} {d' k9 idx : Nat} {As rest : List Value} {q : Option Value → Wd → Prop} (hM : rl_MV y' cc' nL' ret' k9) (hL : Cond.methodLink y.cls idx y' ∈ g_tbl) (hd : decode cc pc = .ok (.invokevirtual idx, 3)) (hC : CN l y' cc' nL' ret' d' X n (.ref b :: As) σ q) (hb : σ b = some (.inr (ci, fs))) (hci : (vwCl[ci]?).map (fun q => q.1) = some y'.cls) (hst : st = As.reverse ++ .ref b :: rest) (hk : As.length = k9) (hdd : d' + 1 ≤ d) (hkm : kc ≤ mc ∧ ks ≤ ms) (hcat : (rest.map fun v => v.category).sum ≤ 8) (kk : ∀ v σ', q v σ' → R cx kc ks n σ' (pc + 3) ls (v.toList ++ rest)) : R cx kc ks n σ pc ls st := by
  subst hst
  refine R.callV hc hM hL hC hb hci hk hdd hkm (Or.inl rfl) hcat hd (fun v n' σ' hq => ?_)
  obtain ⟨rfl, hq⟩ := hq
  exact kk v σ' hq
theorem R.cVi (hc : cx = (l, y, cc, nL, ret, d, mc, ms, n0, X, Q)) {b ci : Nat} {fs : List Value} {y' : MethodName} {cc' : ByteArray} {nL' : Nat} {ret' : Option FieldType} {d' k9 idx : Nat} {As rest : List Value} {r : Int32} {P : Wd → Prop} (hM : rl_MV y' cc' nL' ret' k9) (hL : Cond.methodLink y.cls idx y' ∈ g_tbl) (hd : decode cc pc = .ok (.invokevirtual idx, 3)) (hC : CN l y' cc' nL' ret' d' X n (.ref b :: As) σ (fun v σ' => v = some (.int r) ∧ P σ')) (hb : σ b = some (.inr (ci, fs))) (hci : (vwCl[ci]?).map (fun q => q.1) = some y'.cls) (hst : st = As.reverse ++ .ref b :: rest) (hk : As.length = k9) (hdd : d' + 1 ≤ d) (hkm : kc ≤ mc ∧ ks ≤ ms) (hcat : (rest.map fun v => v.category).sum ≤ 8) (kk : ∀ σ', P σ' → R cx kc ks n σ' (pc + 3) ls (.int r :: rest)) : R cx kc ks n σ pc ls st := by
  subst hst
  refine R.callV hc hM hL hC hb hci hk hdd hkm (Or.inl rfl) hcat hd (fun v n' σ' hq => ?_)
  obtain ⟨rfl, hq⟩ := hq
  exact by obtain ⟨rfl, h2⟩ := hq; exact kk σ' h2
theorem R.cVl (hc : cx = (l, y, cc, nL, ret, d, mc, ms, n0, X, Q)) {b ci : Nat} {fs : List Value} {y' : MethodName} {cc' : ByteArray} {nL' : Nat} {ret' : Option FieldType} {d' k9 idx : Nat} {As rest : List Value} {r : Int64} {P : Wd → Prop} (hM : rl_MV y' cc' nL' ret' k9) (hL : Cond.methodLink y.cls idx y' ∈ g_tbl) (hd : decode cc pc = .ok (.invokevirtual idx, 3)) (hC : CN l y' cc' nL' ret' d' X n (.ref b :: As) σ (fun v σ' => v = some (.long r) ∧ P σ')) (hb : σ b = some (.inr (ci, fs))) (hci : (vwCl[ci]?).map (fun q => q.1) = some y'.cls) (hst : st = As.reverse ++ .ref b :: rest) (hk : As.length = k9) (hdd : d' + 1 ≤ d) (hkm : kc ≤ mc ∧ ks ≤ ms) (hcat : (rest.map fun v => v.category).sum ≤ 8) (kk : ∀ σ', P σ' → R cx kc ks n σ' (pc + 3) ls (.long r :: rest)) : R cx kc ks n σ pc ls st := by
  subst hst
  refine R.callV hc hM hL hC hb hci hk hdd hkm (Or.inl rfl) hcat hd (fun v n' σ' hq => ?_)
  obtain ⟨rfl, hq⟩ := hq
  exact by obtain ⟨rfl, h2⟩ := hq; exact kk σ' h2
theorem R.cVu (hc : cx = (l, y, cc, nL, ret, d, mc, ms, n0, X, Q)) {b ci : Nat} {fs : List Value} {y' : MethodName} {cc' : ByteArray} {nL' : Nat} {ret' : Option FieldType} {d' k9 idx : Nat} {As rest : List Value} {P : Wd → Prop} (hM : rl_MV y' cc' nL' ret' k9) (hL : Cond.methodLink y.cls idx y' ∈ g_tbl) (hd : decode cc pc = .ok (.invokevirtual idx, 3)) (hC : CN l y' cc' nL' ret' d' X n (.ref b :: As) σ (fun v σ' => v = none ∧ P σ')) (hb : σ b = some (.inr (ci, fs))) (hci : (vwCl[ci]?).map (fun q => q.1) = some y'.cls) (hst : st = As.reverse ++ .ref b :: rest) (hk : As.length = k9) (hdd : d' + 1 ≤ d) (hkm : kc ≤ mc ∧ ks ≤ ms) (hcat : (rest.map fun v => v.category).sum ≤ 8) (kk : ∀ σ', P σ' → R cx kc ks n σ' (pc + 3) ls rest) : R cx kc ks n σ pc ls st := by
  subst hst
  refine R.callV hc hM hL hC hb hci hk hdd hkm (Or.inl rfl) hcat hd (fun v n' σ' hq => ?_)
  obtain ⟨rfl, hq⟩ := hq
  exact by obtain ⟨rfl, h2⟩ := hq; exact kk σ' h2
theorem R.cVr (hc : cx = (l, y, cc, nL, ret, d, mc, ms, n0, X, Q)) {b ci : Nat} {fs : List Value} {y' : MethodName} {cc' : ByteArray} {nL' : Nat} {ret' : Option FieldType} {d' k9 idx : Nat} {As rest : List Value} {r : Int32} (hM : rl_MV y' cc' nL' ret' k9) (hL : Cond.methodLink y.cls idx y' ∈ g_tbl) (hd : decode cc pc = .ok (.invokevirtual idx, 3)) (hC : CN l y' cc' nL' ret' d' X n (.ref b :: As) σ (fun v σ' => v = some (.int r) ∧ σ' = σ)) (hb : σ b = some (.inr (ci, fs))) (hci : (vwCl[ci]?).map (fun q => q.1) = some y'.cls) (hst : st = As.reverse ++ .ref b :: rest) (hk : As.length = k9) (hdd : d' + 1 ≤ d) (hkm : kc ≤ mc ∧ ks ≤ ms) (hcat : (rest.map fun v => v.category).sum ≤ 8) (kk : R cx kc ks n σ (pc + 3) ls (.int r :: rest)) : R cx kc ks n σ pc ls st := by
  subst hst
  refine R.callV hc hM hL hC hb hci hk hdd hkm (Or.inl rfl) hcat hd (fun v n' σ' hq => ?_)
  obtain ⟨rfl, hq⟩ := hq
  exact by obtain ⟨rfl, rfl⟩ := hq; exact kk
theorem R.cVm (hc : cx = (l, y, cc, nL, ret, d, mc, ms, n0, X, Q)) {b ci : Nat} {fs : List Value} {y' : MethodName} {cc' : ByteArray} {nL' : Nat} {ret' : Option FieldType} {d' k9 idx : Nat} {As rest : List Value} {r : Int64} (hM : rl_MV y' cc' nL' ret' k9) (hL : Cond.methodLink y.cls idx y' ∈ g_tbl) (hd : decode cc pc = .ok (.invokevirtual idx, 3)) (hC : CN l y' cc' nL' ret' d' X n (.ref b :: As) σ (fun v σ' => v = some (.long r) ∧ σ' = σ)) (hb : σ b = some (.inr (ci, fs))) (hci : (vwCl[ci]?).map (fun q => q.1) = some y'.cls) (hst : st = As.reverse ++ .ref b :: rest) (hk : As.length = k9) (hdd : d' + 1 ≤ d) (hkm : kc ≤ mc ∧ ks ≤ ms) (hcat : (rest.map fun v => v.category).sum ≤ 8) (kk : R cx kc ks n σ (pc + 3) ls (.long r :: rest)) : R cx kc ks n σ pc ls st := by
  subst hst
  refine R.callV hc hM hL hC hb hci hk hdd hkm (Or.inl rfl) hcat hd (fun v n' σ' hq => ?_)
  obtain ⟨rfl, hq⟩ := hq
  exact by obtain ⟨rfl, rfl⟩ := hq; exact kk
theorem R.cSg (hc : cx = (l, y, cc, nL, ret, d, mc, ms, n0, X, Q)) {y' : MethodName} {cc' : ByteArray} {nL' : Nat} {ret' : Option FieldType} {d' k9 idx : Nat} {As rest : List Value} {q : Option Value → Wd → Prop} (hM : rl_MS y' cc' nL' ret' k9) (hL : Cond.methodLink y.cls idx y' ∈ g_tbl) (hd : decode cc pc = .ok (.invokestatic idx, 3)) (hC : CN l y' cc' nL' ret' d' X n As σ q)  (hst : st = As.reverse ++ rest) (hk : As.length = k9) (hdd : d' + 1 ≤ d) (hkm : kc ≤ mc ∧ ks ≤ ms) (hcat : (rest.map fun v => v.category).sum ≤ 8) (kk : ∀ v σ', q v σ' → R cx kc ks n σ' (pc + 3) ls (v.toList ++ rest)) : R cx kc ks n σ pc ls st := by
  subst hst
  refine R.callS hc hM hL hC hk hdd hkm (Or.inl rfl) hcat hd (fun v n' σ' hq => ?_)
  obtain ⟨rfl, hq⟩ := hq
  exact kk v σ' hq
theorem R.cSi (hc : cx = (l, y, cc, nL, ret, d, mc, ms, n0, X, Q)) {y' : MethodName} {cc' : ByteArray} {nL' : Nat} {ret' : Option FieldType} {d' k9 idx : Nat} {As rest : List Value} {r : Int32} {P : Wd → Prop} (hM : rl_MS y' cc' nL' ret' k9) (hL : Cond.methodLink y.cls idx y' ∈ g_tbl) (hd : decode cc pc = .ok (.invokestatic idx, 3)) (hC : CN l y' cc' nL' ret' d' X n As σ (fun v σ' => v = some (.int r) ∧ P σ'))  (hst : st = As.reverse ++ rest) (hk : As.length = k9) (hdd : d' + 1 ≤ d) (hkm : kc ≤ mc ∧ ks ≤ ms) (hcat : (rest.map fun v => v.category).sum ≤ 8) (kk : ∀ σ', P σ' → R cx kc ks n σ' (pc + 3) ls (.int r :: rest)) : R cx kc ks n σ pc ls st := by
  subst hst
  refine R.callS hc hM hL hC hk hdd hkm (Or.inl rfl) hcat hd (fun v n' σ' hq => ?_)
  obtain ⟨rfl, hq⟩ := hq
  exact by obtain ⟨rfl, h2⟩ := hq; exact kk σ' h2
theorem R.cSl (hc : cx = (l, y, cc, nL, ret, d, mc, ms, n0, X, Q)) {y' : MethodName} {cc' : ByteArray} {nL' : Nat} {ret' : Option FieldType} {d' k9 idx : Nat} {As rest : List Value} {r : Int64} {P : Wd → Prop} (hM : rl_MS y' cc' nL' ret' k9) (hL : Cond.methodLink y.cls idx y' ∈ g_tbl) (hd : decode cc pc = .ok (.invokestatic idx, 3)) (hC : CN l y' cc' nL' ret' d' X n As σ (fun v σ' => v = some (.long r) ∧ P σ'))  (hst : st = As.reverse ++ rest) (hk : As.length = k9) (hdd : d' + 1 ≤ d) (hkm : kc ≤ mc ∧ ks ≤ ms) (hcat : (rest.map fun v => v.category).sum ≤ 8) (kk : ∀ σ', P σ' → R cx kc ks n σ' (pc + 3) ls (.long r :: rest)) : R cx kc ks n σ pc ls st := by
  subst hst
  refine R.callS hc hM hL hC hk hdd hkm (Or.inl rfl) hcat hd (fun v n' σ' hq => ?_)
  obtain ⟨rfl, hq⟩ := hq
  exact by obtain ⟨rfl, h2⟩ := hq; exact kk σ' h2
theorem R.cSu (hc : cx = (l, y, cc, nL, ret, d, mc, ms, n0, X, Q)) {y' : MethodName} {cc' : ByteArray} {nL' : Nat} {ret' : Option FieldType} {d' k9 idx : Nat} {As rest : List Value} {P : Wd → Prop} (hM : rl_MS y' cc' nL' ret' k9) (hL : Cond.methodLink y.cls idx y' ∈ g_tbl) (hd : decode cc pc = .ok (.invokestatic idx, 3)) (hC : CN l y' cc' nL' ret' d' X n As σ (fun v σ' => v = none ∧ P σ'))  (hst : st = As.reverse ++ rest) (hk : As.length = k9) (hdd : d' + 1 ≤ d) (hkm : kc ≤ mc ∧ ks ≤ ms) (hcat : (rest.map fun v => v.category).sum ≤ 8) (kk : ∀ σ', P σ' → R cx kc ks n σ' (pc + 3) ls rest) : R cx kc ks n σ pc ls st := by
  subst hst
  refine R.callS hc hM hL hC hk hdd hkm (Or.inl rfl) hcat hd (fun v n' σ' hq => ?_)
  obtain ⟨rfl, hq⟩ := hq
  exact by obtain ⟨rfl, h2⟩ := hq; exact kk σ' h2
theorem R.cSr (hc : cx = (l, y, cc, nL, ret, d, mc, ms, n0, X, Q)) {y' : MethodName} {cc' : ByteArray} {nL' : Nat} {ret' : Option FieldType} {d' k9 idx : Nat} {As rest : List Value} {r : Int32} (hM : rl_MS y' cc' nL' ret' k9) (hL : Cond.methodLink y.cls idx y' ∈ g_tbl) (hd : decode cc pc = .ok (.invokestatic idx, 3)) (hC : CN l y' cc' nL' ret' d' X n As σ (fun v σ' => v = some (.int r) ∧ σ' = σ))  (hst : st = As.reverse ++ rest) (hk : As.length = k9) (hdd : d' + 1 ≤ d) (hkm : kc ≤ mc ∧ ks ≤ ms) (hcat : (rest.map fun v => v.category).sum ≤ 8) (kk : R cx kc ks n σ (pc + 3) ls (.int r :: rest)) : R cx kc ks n σ pc ls st := by
  subst hst
  refine R.callS hc hM hL hC hk hdd hkm (Or.inl rfl) hcat hd (fun v n' σ' hq => ?_)
  obtain ⟨rfl, hq⟩ := hq
  exact by obtain ⟨rfl, rfl⟩ := hq; exact kk
theorem R.cSm (hc : cx = (l, y, cc, nL, ret, d, mc, ms, n0, X, Q)) {y' : MethodName} {cc' : ByteArray} {nL' : Nat} {ret' : Option FieldType} {d' k9 idx : Nat} {As rest : List Value} {r : Int64} (hM : rl_MS y' cc' nL' ret' k9) (hL : Cond.methodLink y.cls idx y' ∈ g_tbl) (hd : decode cc pc = .ok (.invokestatic idx, 3)) (hC : CN l y' cc' nL' ret' d' X n As σ (fun v σ' => v = some (.long r) ∧ σ' = σ))  (hst : st = As.reverse ++ rest) (hk : As.length = k9) (hdd : d' + 1 ≤ d) (hkm : kc ≤ mc ∧ ks ≤ ms) (hcat : (rest.map fun v => v.category).sum ≤ 8) (kk : R cx kc ks n σ (pc + 3) ls (.long r :: rest)) : R cx kc ks n σ pc ls st := by
  subst hst
  refine R.callS hc hM hL hC hk hdd hkm (Or.inl rfl) hcat hd (fun v n' σ' hq => ?_)
  obtain ⟨rfl, hq⟩ := hq
  exact by obtain ⟨rfl, rfl⟩ := hq; exact kk
end RB
theorem ic_m1 : Int32.ofInt (-1) = (-1) := by decide
theorem ic_0 : Int32.ofInt (0) = nI 0 := by decide
theorem ic_1 : Int32.ofInt (1) = nI 1 := by decide
theorem ic_2 : Int32.ofInt (2) = nI 2 := by decide
theorem ic_3 : Int32.ofInt (3) = nI 3 := by decide
theorem ic_4 : Int32.ofInt (4) = nI 4 := by decide
theorem ic_5 : Int32.ofInt (5) = nI 5 := by decide
theorem bp_m20 : (Int8.ofInt (-20)).toInt32 = (-20) := by decide
theorem bp_m14 : (Int8.ofInt (-14)).toInt32 = (-14) := by decide
theorem bp_m13 : (Int8.ofInt (-13)).toInt32 = (-13) := by decide
theorem bp_m12 : (Int8.ofInt (-12)).toInt32 = (-12) := by decide
theorem bp_m11 : (Int8.ofInt (-11)).toInt32 = (-11) := by decide
theorem bp_m4 : (Int8.ofInt (-4)).toInt32 = (-4) := by decide
theorem bp_m3 : (Int8.ofInt (-3)).toInt32 = (-3) := by decide
theorem bp_m2 : (Int8.ofInt (-2)).toInt32 = (-2) := by decide
theorem bp_6 : (Int8.ofInt (6)).toInt32 = nI 6 := by decide
theorem bp_7 : (Int8.ofInt (7)).toInt32 = nI 7 := by decide
theorem bp_8 : (Int8.ofInt (8)).toInt32 = nI 8 := by decide
theorem bp_9 : (Int8.ofInt (9)).toInt32 = nI 9 := by decide
theorem bp_10 : (Int8.ofInt (10)).toInt32 = nI 10 := by decide
theorem bp_13 : (Int8.ofInt (13)).toInt32 = nI 13 := by decide
theorem bp_15 : (Int8.ofInt (15)).toInt32 = nI 15 := by decide
theorem bp_16 : (Int8.ofInt (16)).toInt32 = nI 16 := by decide
theorem bp_17 : (Int8.ofInt (17)).toInt32 = nI 17 := by decide
theorem bp_18 : (Int8.ofInt (18)).toInt32 = nI 18 := by decide
theorem bp_19 : (Int8.ofInt (19)).toInt32 = nI 19 := by decide
theorem bp_20 : (Int8.ofInt (20)).toInt32 = nI 20 := by decide
theorem bp_21 : (Int8.ofInt (21)).toInt32 = nI 21 := by decide
theorem bp_24 : (Int8.ofInt (24)).toInt32 = nI 24 := by decide
theorem bp_25 : (Int8.ofInt (25)).toInt32 = nI 25 := by decide
theorem bp_30 : (Int8.ofInt (30)).toInt32 = nI 30 := by decide
theorem bp_32 : (Int8.ofInt (32)).toInt32 = nI 32 := by decide
theorem bp_40 : (Int8.ofInt (40)).toInt32 = nI 40 := by decide
theorem bp_41 : (Int8.ofInt (41)).toInt32 = nI 41 := by decide
theorem bp_42 : (Int8.ofInt (42)).toInt32 = nI 42 := by decide
theorem bp_44 : (Int8.ofInt (44)).toInt32 = nI 44 := by decide
theorem bp_47 : (Int8.ofInt (47)).toInt32 = nI 47 := by decide
theorem bp_48 : (Int8.ofInt (48)).toInt32 = nI 48 := by decide
theorem bp_49 : (Int8.ofInt (49)).toInt32 = nI 49 := by decide
theorem bp_57 : (Int8.ofInt (57)).toInt32 = nI 57 := by decide
theorem bp_59 : (Int8.ofInt (59)).toInt32 = nI 59 := by decide
theorem bp_60 : (Int8.ofInt (60)).toInt32 = nI 60 := by decide
theorem bp_61 : (Int8.ofInt (61)).toInt32 = nI 61 := by decide
theorem bp_63 : (Int8.ofInt (63)).toInt32 = nI 63 := by decide
theorem bp_64 : (Int8.ofInt (64)).toInt32 = nI 64 := by decide
theorem bp_90 : (Int8.ofInt (90)).toInt32 = nI 90 := by decide
theorem bp_96 : (Int8.ofInt (96)).toInt32 = nI 96 := by decide
theorem bp_99 : (Int8.ofInt (99)).toInt32 = nI 99 := by decide
theorem bp_103 : (Int8.ofInt (103)).toInt32 = nI 103 := by decide
theorem bp_107 : (Int8.ofInt (107)).toInt32 = nI 107 := by decide
theorem bp_112 : (Int8.ofInt (112)).toInt32 = nI 112 := by decide
theorem bp_115 : (Int8.ofInt (115)).toInt32 = nI 115 := by decide
theorem bp_119 : (Int8.ofInt (119)).toInt32 = nI 119 := by decide
theorem bp_126 : (Int8.ofInt (126)).toInt32 = nI 126 := by decide
theorem bp_127 : (Int8.ofInt (127)).toInt32 = nI 127 := by decide
theorem sp_128 : (Int16.ofInt (128)).toInt32 = nI 128 := by decide
theorem sp_168 : (Int16.ofInt (168)).toInt32 = nI 168 := by decide
theorem sp_217 : (Int16.ofInt (217)).toInt32 = nI 217 := by decide
theorem sp_255 : (Int16.ofInt (255)).toInt32 = nI 255 := by decide
theorem sp_1023 : (Int16.ofInt (1023)).toInt32 = nI 1023 := by decide
theorem sp_9999 : (Int16.ofInt (9999)).toInt32 = nI 9999 := by decide
theorem sp_12345 : (Int16.ofInt (12345)).toInt32 = nI 12345 := by decide
theorem ii_1 (x : Int32) : x + Int32.ofInt (1) = x + (1) := rfl
theorem ii_m1 (x : Int32) : x + Int32.ofInt (-1) = x + (-1) := rfl
theorem ii_7 (x : Int32) : x + Int32.ofInt (7) = x + (7) := rfl
