section NI9
variable {cx : Cx} {l : Launch} {y : MethodName} {cc : ByteArray} {nL : Nat} {ret : Option FieldType} {d mc ms n0 : Nat} {X : Nat × (Nat → Int32)} {Q : Option Value → Nat → Wd → Prop} {kc ks n : Nat} {σ : Wd} {pc : Nat} {ls : List (Option Value)} {st : List Value}
theorem ac_int : Cond.arrayClass .int ∈ g_tbl := g_at 142 (by decide +kernel) rfl
theorem ac_char : Cond.arrayClass .char ∈ g_tbl := g_at 176 (by decide +kernel) rfl
theorem ac_long : Cond.arrayClass .long ∈ g_tbl := g_at 194 (by decide +kernel) rfl
theorem R.nwI (hc : cx = (l, y, cc, nL, ret, d, mc, ms, n0, X, Q)) {N : Nat} (hd : decode cc pc = .ok (.newarray .int, 2)) (hN : N ≤ 1000) (hm : kc + 1 ≤ mc ∧ ks + N ≤ ms) (hnn : n = n0 + kc) (hn : n + 1 ≤ 1000000) (kk : ∀ σ', σ' n = some (.inl (0, N, .inl (fun _ => 0))) → Eqo n 1 σ σ' → R cx (kc + 1) (ks + N) (n + 1) σ' (pc + 2) ls (.ref n :: st)) : R cx kc ks n σ pc ls (.int (nI N) :: st) :=
  R.newarr (t9 := 0) (ty := .int) (a0 := (N, .inl (fun _ => 0))) hc ac_int rfl (fun _ => rfl) (fun U c1 c2 h1 h2 => Option.some.inj ((va_nm_int h1).symm.trans (va_nm_int h2))) (fun _ => rfl) (by omega) (by show N * 4 ≤ _; omega) hm hnn hn hd (kk _ rl_up_s rl_up1)
theorem R.nwC (hc : cx = (l, y, cc, nL, ret, d, mc, ms, n0, X, Q)) {N : Nat} (hd : decode cc pc = .ok (.newarray .char, 2)) (hN : N ≤ 1000) (hm : kc + 1 ≤ mc ∧ ks + N ≤ ms) (hnn : n = n0 + kc) (hn : n + 1 ≤ 1000000) (kk : ∀ σ', σ' n = some (.inl (2, N, .inl (fun _ => 0))) → Eqo n 1 σ σ' → R cx (kc + 1) (ks + N) (n + 1) σ' (pc + 2) ls (.ref n :: st)) : R cx kc ks n σ pc ls (.int (nI N) :: st) :=
  R.newarr (t9 := 2) (ty := .char) (a0 := (N, .inl (fun _ => 0))) hc ac_char rfl (fun _ => rfl) (fun U c1 c2 h1 h2 => Option.some.inj ((va_nm_char h1).symm.trans (va_nm_char h2))) (fun _ => rfl) (by omega) (by show N * 2 ≤ _; omega) hm hnn hn hd (kk _ rl_up_s rl_up1)
theorem R.nwL (hc : cx = (l, y, cc, nL, ret, d, mc, ms, n0, X, Q)) {N : Nat} (hd : decode cc pc = .ok (.newarray .long, 2)) (hN : N ≤ 1000) (hm : kc + 1 ≤ mc ∧ ks + N ≤ ms) (hnn : n = n0 + kc) (hn : n + 1 ≤ 1000000) (kk : ∀ σ', σ' n = some (.inl (1, N, .inr (.inl (fun _ => 0)))) → Eqo n 1 σ σ' → R cx (kc + 1) (ks + N) (n + 1) σ' (pc + 2) ls (.ref n :: st)) : R cx kc ks n σ pc ls (.int (nI N) :: st) :=
  R.newarr (t9 := 1) (ty := .long) (a0 := (N, .inr (.inl (fun _ => 0)))) hc ac_long rfl (fun _ => rfl) (fun U c1 c2 h1 h2 => Option.some.inj ((va_nm_long h1).symm.trans (va_nm_long h2))) (fun _ => rfl) (by omega) (by show N * 8 ≤ _; omega) hm hnn hn hd (kk _ rl_up_s rl_up1)
theorem R.putFG (hc : cx = (l, y, cc, nL, ret, d, mc, ms, n0, X, Q)) {i idx ci k : Nat} {ty : FieldType} {fs : List Value} {v : Value} (hy : y.name = "<init>") (hg : rl_GF y.cls idx ci k true ty) (hd : decode cc pc = .ok (.putfield idx, 3)) (he : σ i = some (.inr (ci, fs))) (hk : k < fs.length) (hn : ∀ E, narrow ty (rl_tv E v) = rl_tv E v) (hfit : ∀ E, fits ty (rl_tv E v) = true) (kk : ∀ σ', σ' i = some (.inr (ci, fs.set k v)) → Eqo i 1 σ σ' → R cx kc ks n σ' (pc + 3) ls st) : R cx kc ks n σ pc ls (v :: .ref i :: st) := R.putF hc hy hg he hk hn hfit rfl hd (kk _ rl_up_s rl_up1)
/-- a new object -/
theorem R.nwO (hc : cx = (l, y, cc, nL, ret, d, mc, ms, n0, X, Q)) {idx ci N : Nat} {C : String} {T : u_T} (fs : List Value) {ty : Nat → FieldType} (hd : decode cc pc = .ok (.new idx, 3)) (hty : ∀ k, k < N → parseFieldDescriptor (T k).2.2.1 = some (ty k)) (hin : ∀ w ∈ u_ws C T N, w ∈ g_tbl) (hw : Cond.classLink y.cls idx C ∈ g_tbl ∧ Cond.instantiable C N ∈ g_tbl ∧ Cond.initialized C ∈ g_tbl) (hci : vwCl[ci]? = some (C, T, N)) (hfs : ∀ E, ∀ j, j < N → defaultValue (ty j) = vp_V (fs.map (rl_tv E)) j) (hm : kc + 1 ≤ mc ∧ ks + N ≤ ms) (hnn : n = n0 + kc) (hn : n + 1 ≤ 1000000) (kk : ∀ σ', σ' n = some (.inr (ci, fs)) → Eqo n 1 σ σ' → R cx (kc + 1) (ks + N) (n + 1) σ' (pc + 3) ls (.ref n :: st)) : R cx kc ks n σ pc ls st := R.new hc ty hty hin hw.1 hw.2.1 hw.2.2 hci hfs hm hnn hn hd (kk _ rl_up_s rl_up1)
/-- a constructor's contract -/
def CI (l : Launch) (y : MethodName) (cc : ByteArray) (nL d mc ms : Nat) (X : Nat × (Nat → Int32)) (n b : Nat) (σ : Wd) (n2 : Nat) (P : Wd → Prop) : Prop := Con l y cc nL none d mc ms X n [.ref b] σ (fun v n' σ' => v = none ∧ n' = n2 ∧ P σ')
theorem R.cN (hc : cx = (l, y, cc, nL, ret, d, mc, ms, n0, X, Q)) {y' : MethodName} {cc' : ByteArray} {nL' d' mc' ms' idx n2 b : Nat} {rest : List Value} {P : Wd → Prop} {host : String} (hM : rl_MI y' cc' nL' 0) (hL : (y.cls, idx, y', host) ∈ rl_nest) (hd : decode cc pc = .ok (.invokespecial idx, 3)) (hC : CI l y' cc' nL' d' mc' ms' X n b σ n2 P) (hdd : d' + 1 ≤ d) (hm : kc + mc' ≤ mc ∧ ks + ms' ≤ ms) (hnn : n = n0 + kc) (hcat : (rest.map fun v => v.category).sum ≤ 8) (kk : ∀ σ', P σ' → R cx (kc + mc') (ks + ms') n2 σ' (pc + 3) ls rest) : R cx kc ks n σ pc ls (.ref b :: rest) :=
  R.callN (As := []) hc rfl hM hL hC rfl hdd hm (Or.inr hnn) hcat hd (fun v n' σ' hq => by obtain ⟨rfl, rfl, h⟩ := hq; exact kk σ' h)
theorem R.cI (hc : cx = (l, y, cc, nL, ret, d, mc, ms, n0, X, Q)) {y' : MethodName} {cc' : ByteArray} {nL' d' mc' ms' idx n2 b : Nat} {rest : List Value} {P : Wd → Prop} (hM : rl_MI y' cc' nL' 0) (hL : Cond.methodLink y.cls idx y' ∈ g_tbl) (hd : decode cc pc = .ok (.invokespecial idx, 3)) (hC : CI l y' cc' nL' d' mc' ms' X n b σ n2 P) (hdd : d' + 1 ≤ d) (hm : kc + mc' ≤ mc ∧ ks + ms' ≤ ms) (hnn : n = n0 + kc) (hcat : (rest.map fun v => v.category).sum ≤ 8) (kk : ∀ σ', P σ' → R cx (kc + mc') (ks + ms') n2 σ' (pc + 3) ls rest) : R cx kc ks n σ pc ls (.ref b :: rest) :=
  R.callI (As := []) (ret' := none) hc rfl hM hL hC rfl hdd hm (Or.inr hnn) hcat hd (fun v n' σ' hq => by obtain ⟨rfl, rfl, h⟩ := hq; exact kk σ' h)
end NI9
theorem nw_X4 : Cond.classLink RX6 7 RX4 ∈ g_tbl ∧ Cond.instantiable RX4 11 ∈ g_tbl ∧ Cond.initialized RX4 ∈ g_tbl := ⟨g_at 83 (by decide +kernel) rfl, g_at 84 (by decide +kernel) rfl, g_at 60 (by decide +kernel) rfl⟩
theorem nw_X0 : Cond.classLink RX6 16 RX0 ∈ g_tbl ∧ Cond.instantiable RX0 3 ∈ g_tbl ∧ Cond.initialized RX0 ∈ g_tbl := ⟨g_at 143 (by decide +kernel) rfl, g_at 144 (by decide +kernel) rfl, g_at 61 (by decide +kernel) rfl⟩
theorem nw_X5 : Cond.classLink RX6 36 RX5 ∈ g_tbl ∧ Cond.instantiable RX5 3 ∈ g_tbl ∧ Cond.initialized RX5 ∈ g_tbl := ⟨g_at 160 (by decide +kernel) rfl, g_at 161 (by decide +kernel) rfl, g_at 62 (by decide +kernel) rfl⟩
theorem nw_X3 : Cond.classLink RX6 43 RX3 ∈ g_tbl ∧ Cond.instantiable RX3 3 ∈ g_tbl ∧ Cond.initialized RX3 ∈ g_tbl := ⟨g_at 177 (by decide +kernel) rfl, g_at 178 (by decide +kernel) rfl, g_at 63 (by decide +kernel) rfl⟩
theorem nw_X1 : Cond.classLink RX6 50 RX1 ∈ g_tbl ∧ Cond.instantiable RX1 3 ∈ g_tbl ∧ Cond.initialized RX1 ∈ g_tbl := ⟨g_at 195 (by decide +kernel) rfl, g_at 196 (by decide +kernel) rfl, g_at 64 (by decide +kernel) rfl⟩
theorem nw_X2 : Cond.classLink RX6 57 RX2 ∈ g_tbl ∧ Cond.instantiable RX2 6 ∈ g_tbl ∧ Cond.initialized RX2 ∈ g_tbl := ⟨g_at 211 (by decide +kernel) rfl, g_at 212 (by decide +kernel) rfl, g_at 65 (by decide +kernel) rfl⟩
theorem nw_X6 : Cond.classLink RL 7 RX6 ∈ g_tbl ∧ Cond.instantiable RX6 10 ∈ g_tbl ∧ Cond.initialized RX6 ∈ g_tbl := ⟨g_at 75 (by decide +kernel) rfl, g_at 76 (by decide +kernel) rfl, g_at 59 (by decide +kernel) rfl⟩
theorem nw_X7 : Cond.classLink RL 10 RX7 ∈ g_tbl ∧ Cond.instantiable RX7 22 ∈ g_tbl ∧ Cond.initialized RX7 ∈ g_tbl := ⟨g_at 808 (by decide +kernel) rfl, g_at 809 (by decide +kernel) rfl, g_at 66 (by decide +kernel) rfl⟩
abbrev fdX0 : List Value := [.null, .int 0, .int 0]
theorem dfX0 : ∀ E, ∀ j, j < 3 → defaultValue (tyX0 j) = vp_V (fdX0.map (rl_tv E)) j := by
  intro E j hj
  rcases (show j = 0 ∨ j = 1 ∨ j = 2 by omega) with rfl | rfl | rfl <;> rfl
abbrev fdX1 : List Value := [.null, .null, .int 0]
theorem dfX1 : ∀ E, ∀ j, j < 3 → defaultValue (tyX1 j) = vp_V (fdX1.map (rl_tv E)) j := by
  intro E j hj
  rcases (show j = 0 ∨ j = 1 ∨ j = 2 by omega) with rfl | rfl | rfl <;> rfl
abbrev fdX2 : List Value := [.null, .null, .null, .int 0, .int 0, .int 0]
theorem dfX2 : ∀ E, ∀ j, j < 6 → defaultValue (tyX2 j) = vp_V (fdX2.map (rl_tv E)) j := by
  intro E j hj
  rcases (show j = 0 ∨ j = 1 ∨ j = 2 ∨ j = 3 ∨ j = 4 ∨ j = 5 by omega) with rfl | rfl | rfl | rfl | rfl | rfl <;> rfl
abbrev fdX3 : List Value := [.null, .null, .null]
theorem dfX3 : ∀ E, ∀ j, j < 3 → defaultValue (tyX3 j) = vp_V (fdX3.map (rl_tv E)) j := by
  intro E j hj
  rcases (show j = 0 ∨ j = 1 ∨ j = 2 by omega) with rfl | rfl | rfl <;> rfl
abbrev fdX4 : List Value := [.null, .null, .null, .null, .null, .null, .null, .int 0, .int 0, .int 0, .int 0]
theorem dfX4 : ∀ E, ∀ j, j < 11 → defaultValue (tyX4 j) = vp_V (fdX4.map (rl_tv E)) j := by
  intro E j hj
  rcases (show j = 0 ∨ j = 1 ∨ j = 2 ∨ j = 3 ∨ j = 4 ∨ j = 5 ∨ j = 6 ∨ j = 7 ∨ j = 8 ∨ j = 9 ∨ j = 10 by omega) with rfl | rfl | rfl | rfl | rfl | rfl | rfl | rfl | rfl | rfl | rfl <;> rfl
abbrev fdX5 : List Value := [.null, .int 0, .int 0]
theorem dfX5 : ∀ E, ∀ j, j < 3 → defaultValue (tyX5 j) = vp_V (fdX5.map (rl_tv E)) j := by
  intro E j hj
  rcases (show j = 0 ∨ j = 1 ∨ j = 2 by omega) with rfl | rfl | rfl <;> rfl
abbrev fdX6 : List Value := [.null, .null, .null, .null, .null, .int 0, .null, .null, .null, .null]
theorem dfX6 : ∀ E, ∀ j, j < 10 → defaultValue (tyX6 j) = vp_V (fdX6.map (rl_tv E)) j := by
  intro E j hj
  rcases (show j = 0 ∨ j = 1 ∨ j = 2 ∨ j = 3 ∨ j = 4 ∨ j = 5 ∨ j = 6 ∨ j = 7 ∨ j = 8 ∨ j = 9 by omega) with rfl | rfl | rfl | rfl | rfl | rfl | rfl | rfl | rfl | rfl <;> rfl
abbrev fdX7 : List Value := [.null, .null, .null, .int 0, .int 0, .int 0, .null, .null, .null, .int 0, .null, .null, .null, .null, .null, .null, .int 0, .int 0, .null, .null, .null, .null]
theorem dfX7 : ∀ E, ∀ j, j < 22 → defaultValue (tyX7 j) = vp_V (fdX7.map (rl_tv E)) j := by
  intro E j hj
  rcases (show j = 0 ∨ j = 1 ∨ j = 2 ∨ j = 3 ∨ j = 4 ∨ j = 5 ∨ j = 6 ∨ j = 7 ∨ j = 8 ∨ j = 9 ∨ j = 10 ∨ j = 11 ∨ j = 12 ∨ j = 13 ∨ j = 14 ∨ j = 15 ∨ j = 16 ∨ j = 17 ∨ j = 18 ∨ j = 19 ∨ j = 20 ∨ j = 21 by omega) with rfl | rfl | rfl | rfl | rfl | rfl | rfl | rfl | rfl | rfl | rfl | rfl | rfl | rfl | rfl | rfl | rfl | rfl | rfl | rfl | rfl | rfl <;> rfl
set_option maxHeartbeats 4000000 in
set_option maxRecDepth 100000 in
theorem c_X4_init (l : Launch) (d : Nat) (X : Nat × (Nat → Int32)) {σ : Wd} (b : Nat) (hb9 : b ≤ 100) (hO : σ b = some (.inr (4, fdX4))) : CI l yX4_init cX4_init 1 (d + 1) 7 45 X (b + 1) b σ (b + 8) (fun σ' => St σ' b (fun _ _ => 0) 0 0 0 1 ∧ Eqo b 8 σ σ') := by
  refine Con.of (by decide) [some (.ref b)] (fun _ => Nat.le_of_ble_eq_true rfl) (fun _ => rfl) (fun cx hc => ?_)
  have hF : Eqo b 8 σ σ := Eqo.rf
  refine R.aload_n (j := 0) (i := 0) hc rfl rfl dX4_init_0 ?_
  refine R.objInit hc lk_X4_3 (by omega) (Nat.le_of_ble_eq_true rfl) dX4_init_1 ?_
  refine R.aload_n (j := 0) (i := 0) hc rfl rfl dX4_init_4 ?_
  refine R.bipush hc bp_7 dX4_init_5 ?_
  refine R.nwI hc dX4_init_7 (Nat.le_of_ble_eq_true rfl) ⟨Nat.le_of_ble_eq_true rfl, Nat.le_of_ble_eq_true rfl⟩ (by omega) (by omega) (fun σ hX hE => ?_)
  have hO := (hE b (by omega)).trans hO
  have hF := hF.tr (hE.wid (by omega))
  have ha1 := hX
  refine R.putFG hc rfl gf_X4_11 dX4_init_9 hO (Nat.le_of_ble_eq_true rfl) (fun _ => rfl) (fun _ => rfl) (fun σ hX hE => ?_)
  have hO : σ b = some (.inr (4, [.ref (b + 1), .null, .null, .null, .null, .null, .null, .int 0, .int 0, .int 0, .int 0])) := hX
  have ha1 := (hE (b + 1) (by omega)).trans ha1
  have hF := hF.tr (hE.wid (by omega))
  refine R.aload_n (j := 0) (i := 0) hc rfl rfl dX4_init_12 ?_
  refine R.bipush hc bp_7 dX4_init_13 ?_
  refine R.nwI hc dX4_init_15 (Nat.le_of_ble_eq_true rfl) ⟨Nat.le_of_ble_eq_true rfl, Nat.le_of_ble_eq_true rfl⟩ (by omega) (by omega) (fun σ hX hE => ?_)
  have hO := (hE b (by omega)).trans hO
  have ha1 := (hE (b + 1) (by omega)).trans ha1
  have hF := hF.tr (hE.wid (by omega))
  have ha2 := hX
  refine R.putFG hc rfl gf_X4_15 dX4_init_17 hO (Nat.le_of_ble_eq_true rfl) (fun _ => rfl) (fun _ => rfl) (fun σ hX hE => ?_)
  have hO : σ b = some (.inr (4, [.ref (b + 1), .ref (b + 2), .null, .null, .null, .null, .null, .int 0, .int 0, .int 0, .int 0])) := hX
  have ha1 := (hE (b + 1) (by omega)).trans ha1
  have ha2 := (hE (b + 2) (by omega)).trans ha2
  have hF := hF.tr (hE.wid (by omega))
  refine R.aload_n (j := 0) (i := 0) hc rfl rfl dX4_init_20 ?_
  refine R.bipush hc bp_7 dX4_init_21 ?_
  refine R.nwI hc dX4_init_23 (Nat.le_of_ble_eq_true rfl) ⟨Nat.le_of_ble_eq_true rfl, Nat.le_of_ble_eq_true rfl⟩ (by omega) (by omega) (fun σ hX hE => ?_)
  have hO := (hE b (by omega)).trans hO
  have ha1 := (hE (b + 1) (by omega)).trans ha1
  have ha2 := (hE (b + 2) (by omega)).trans ha2
  have hF := hF.tr (hE.wid (by omega))
  have ha3 := hX
  refine R.putFG hc rfl gf_X4_18 dX4_init_25 hO (Nat.le_of_ble_eq_true rfl) (fun _ => rfl) (fun _ => rfl) (fun σ hX hE => ?_)
  have hO : σ b = some (.inr (4, [.ref (b + 1), .ref (b + 2), .ref (b + 3), .null, .null, .null, .null, .int 0, .int 0, .int 0, .int 0])) := hX
  have ha1 := (hE (b + 1) (by omega)).trans ha1
  have ha2 := (hE (b + 2) (by omega)).trans ha2
  have ha3 := (hE (b + 3) (by omega)).trans ha3
  have hF := hF.tr (hE.wid (by omega))
  refine R.aload_n (j := 0) (i := 0) hc rfl rfl dX4_init_28 ?_
  refine R.bipush hc bp_6 dX4_init_29 ?_
  refine R.nwI hc dX4_init_31 (Nat.le_of_ble_eq_true rfl) ⟨Nat.le_of_ble_eq_true rfl, Nat.le_of_ble_eq_true rfl⟩ (by omega) (by omega) (fun σ hX hE => ?_)
  have hO := (hE b (by omega)).trans hO
  have ha1 := (hE (b + 1) (by omega)).trans ha1
  have ha2 := (hE (b + 2) (by omega)).trans ha2
  have ha3 := (hE (b + 3) (by omega)).trans ha3
  have hF := hF.tr (hE.wid (by omega))
  have ha4 := hX
  refine R.putFG hc rfl gf_X4_21 dX4_init_33 hO (Nat.le_of_ble_eq_true rfl) (fun _ => rfl) (fun _ => rfl) (fun σ hX hE => ?_)
  have hO : σ b = some (.inr (4, [.ref (b + 1), .ref (b + 2), .ref (b + 3), .ref (b + 4), .null, .null, .null, .int 0, .int 0, .int 0, .int 0])) := hX
  have ha1 := (hE (b + 1) (by omega)).trans ha1
  have ha2 := (hE (b + 2) (by omega)).trans ha2
  have ha3 := (hE (b + 3) (by omega)).trans ha3
  have ha4 := (hE (b + 4) (by omega)).trans ha4
  have hF := hF.tr (hE.wid (by omega))
  refine R.aload_n (j := 0) (i := 0) hc rfl rfl dX4_init_36 ?_
  refine R.bipush hc bp_6 dX4_init_37 ?_
  refine R.nwI hc dX4_init_39 (Nat.le_of_ble_eq_true rfl) ⟨Nat.le_of_ble_eq_true rfl, Nat.le_of_ble_eq_true rfl⟩ (by omega) (by omega) (fun σ hX hE => ?_)
  have hO := (hE b (by omega)).trans hO
  have ha1 := (hE (b + 1) (by omega)).trans ha1
  have ha2 := (hE (b + 2) (by omega)).trans ha2
  have ha3 := (hE (b + 3) (by omega)).trans ha3
  have ha4 := (hE (b + 4) (by omega)).trans ha4
  have hF := hF.tr (hE.wid (by omega))
  have ha5 := hX
  refine R.putFG hc rfl gf_X4_24 dX4_init_41 hO (Nat.le_of_ble_eq_true rfl) (fun _ => rfl) (fun _ => rfl) (fun σ hX hE => ?_)
  have hO : σ b = some (.inr (4, [.ref (b + 1), .ref (b + 2), .ref (b + 3), .ref (b + 4), .ref (b + 5), .null, .null, .int 0, .int 0, .int 0, .int 0])) := hX
  have ha1 := (hE (b + 1) (by omega)).trans ha1
  have ha2 := (hE (b + 2) (by omega)).trans ha2
  have ha3 := (hE (b + 3) (by omega)).trans ha3
  have ha4 := (hE (b + 4) (by omega)).trans ha4
  have ha5 := (hE (b + 5) (by omega)).trans ha5
  have hF := hF.tr (hE.wid (by omega))
  refine R.aload_n (j := 0) (i := 0) hc rfl rfl dX4_init_44 ?_
  refine R.bipush hc bp_6 dX4_init_45 ?_
  refine R.nwI hc dX4_init_47 (Nat.le_of_ble_eq_true rfl) ⟨Nat.le_of_ble_eq_true rfl, Nat.le_of_ble_eq_true rfl⟩ (by omega) (by omega) (fun σ hX hE => ?_)
  have hO := (hE b (by omega)).trans hO
  have ha1 := (hE (b + 1) (by omega)).trans ha1
  have ha2 := (hE (b + 2) (by omega)).trans ha2
  have ha3 := (hE (b + 3) (by omega)).trans ha3
  have ha4 := (hE (b + 4) (by omega)).trans ha4
  have ha5 := (hE (b + 5) (by omega)).trans ha5
  have hF := hF.tr (hE.wid (by omega))
  have ha6 := hX
  refine R.putFG hc rfl gf_X4_27 dX4_init_49 hO (Nat.le_of_ble_eq_true rfl) (fun _ => rfl) (fun _ => rfl) (fun σ hX hE => ?_)
  have hO : σ b = some (.inr (4, [.ref (b + 1), .ref (b + 2), .ref (b + 3), .ref (b + 4), .ref (b + 5), .ref (b + 6), .null, .int 0, .int 0, .int 0, .int 0])) := hX
  have ha1 := (hE (b + 1) (by omega)).trans ha1
  have ha2 := (hE (b + 2) (by omega)).trans ha2
  have ha3 := (hE (b + 3) (by omega)).trans ha3
  have ha4 := (hE (b + 4) (by omega)).trans ha4
  have ha5 := (hE (b + 5) (by omega)).trans ha5
  have ha6 := (hE (b + 6) (by omega)).trans ha6
  have hF := hF.tr (hE.wid (by omega))
  refine R.aload_n (j := 0) (i := 0) hc rfl rfl dX4_init_52 ?_
  refine R.bipush hc bp_6 dX4_init_53 ?_
  refine R.nwI hc dX4_init_55 (Nat.le_of_ble_eq_true rfl) ⟨Nat.le_of_ble_eq_true rfl, Nat.le_of_ble_eq_true rfl⟩ (by omega) (by omega) (fun σ hX hE => ?_)
  have hO := (hE b (by omega)).trans hO
  have ha1 := (hE (b + 1) (by omega)).trans ha1
  have ha2 := (hE (b + 2) (by omega)).trans ha2
  have ha3 := (hE (b + 3) (by omega)).trans ha3
  have ha4 := (hE (b + 4) (by omega)).trans ha4
  have ha5 := (hE (b + 5) (by omega)).trans ha5
  have ha6 := (hE (b + 6) (by omega)).trans ha6
  have hF := hF.tr (hE.wid (by omega))
  have ha7 := hX
  refine R.putFG hc rfl gf_X4_30 dX4_init_57 hO (Nat.le_of_ble_eq_true rfl) (fun _ => rfl) (fun _ => rfl) (fun σ hX hE => ?_)
  have hO : σ b = some (.inr (4, [.ref (b + 1), .ref (b + 2), .ref (b + 3), .ref (b + 4), .ref (b + 5), .ref (b + 6), .ref (b + 7), .int 0, .int 0, .int 0, .int 0])) := hX
  have ha1 := (hE (b + 1) (by omega)).trans ha1
  have ha2 := (hE (b + 2) (by omega)).trans ha2
  have ha3 := (hE (b + 3) (by omega)).trans ha3
  have ha4 := (hE (b + 4) (by omega)).trans ha4
  have ha5 := (hE (b + 5) (by omega)).trans ha5
  have ha6 := (hE (b + 6) (by omega)).trans ha6
  have ha7 := (hE (b + 7) (by omega)).trans ha7
  have hF := hF.tr (hE.wid (by omega))
  refine R.aload_n (j := 0) (i := 0) hc rfl rfl dX4_init_60 ?_
  refine R.iconst hc ic_0 dX4_init_61 ?_
  refine R.putG hc gf_X4_33 dX4_init_62 hO (Nat.le_of_ble_eq_true rfl) (fun _ => rfl) (fun _ => rfl) (fun σ hX hE => ?_)
  have hO : σ b = some (.inr (4, [.ref (b + 1), .ref (b + 2), .ref (b + 3), .ref (b + 4), .ref (b + 5), .ref (b + 6), .ref (b + 7), .int (nI 0), .int 0, .int 0, .int 0])) := hX
  have ha1 := (hE (b + 1) (by omega)).trans ha1
  have ha2 := (hE (b + 2) (by omega)).trans ha2
  have ha3 := (hE (b + 3) (by omega)).trans ha3
  have ha4 := (hE (b + 4) (by omega)).trans ha4
  have ha5 := (hE (b + 5) (by omega)).trans ha5
  have ha6 := (hE (b + 6) (by omega)).trans ha6
  have ha7 := (hE (b + 7) (by omega)).trans ha7
  have hF := hF.tr (hE.wid (by omega))
  refine R.aload_n (j := 0) (i := 0) hc rfl rfl dX4_init_65 ?_
  refine R.iconst hc ic_0 dX4_init_66 ?_
  refine R.putG hc gf_X4_37 dX4_init_67 hO (Nat.le_of_ble_eq_true rfl) (fun _ => rfl) (fun _ => rfl) (fun σ hX hE => ?_)
  have hO : σ b = some (.inr (4, [.ref (b + 1), .ref (b + 2), .ref (b + 3), .ref (b + 4), .ref (b + 5), .ref (b + 6), .ref (b + 7), .int (nI 0), .int (nI 0), .int 0, .int 0])) := hX
  have ha1 := (hE (b + 1) (by omega)).trans ha1
  have ha2 := (hE (b + 2) (by omega)).trans ha2
  have ha3 := (hE (b + 3) (by omega)).trans ha3
  have ha4 := (hE (b + 4) (by omega)).trans ha4
  have ha5 := (hE (b + 5) (by omega)).trans ha5
  have ha6 := (hE (b + 6) (by omega)).trans ha6
  have ha7 := (hE (b + 7) (by omega)).trans ha7
  have hF := hF.tr (hE.wid (by omega))
  refine R.aload_n (j := 0) (i := 0) hc rfl rfl dX4_init_70 ?_
  refine R.iconst hc ic_0 dX4_init_71 ?_
  refine R.putG hc gf_X4_40 dX4_init_72 hO (Nat.le_of_ble_eq_true rfl) (fun _ => rfl) (fun _ => rfl) (fun σ hX hE => ?_)
  have hO : σ b = some (.inr (4, [.ref (b + 1), .ref (b + 2), .ref (b + 3), .ref (b + 4), .ref (b + 5), .ref (b + 6), .ref (b + 7), .int (nI 0), .int (nI 0), .int (nI 0), .int 0])) := hX
  have ha1 := (hE (b + 1) (by omega)).trans ha1
  have ha2 := (hE (b + 2) (by omega)).trans ha2
  have ha3 := (hE (b + 3) (by omega)).trans ha3
  have ha4 := (hE (b + 4) (by omega)).trans ha4
  have ha5 := (hE (b + 5) (by omega)).trans ha5
  have ha6 := (hE (b + 6) (by omega)).trans ha6
  have ha7 := (hE (b + 7) (by omega)).trans ha7
  have hF := hF.tr (hE.wid (by omega))
  refine R.aload_n (j := 0) (i := 0) hc rfl rfl dX4_init_75 ?_
  refine R.iconst hc ic_1 dX4_init_76 ?_
  refine R.putG hc gf_X4_43 dX4_init_77 hO (Nat.le_of_ble_eq_true rfl) (fun _ => rfl) (fun _ => rfl) (fun σ hX hE => ?_)
  have hO : σ b = some (.inr (4, [.ref (b + 1), .ref (b + 2), .ref (b + 3), .ref (b + 4), .ref (b + 5), .ref (b + 6), .ref (b + 7), .int (nI 0), .int (nI 0), .int (nI 0), .int (nI 1)])) := hX
  have ha1 := (hE (b + 1) (by omega)).trans ha1
  have ha2 := (hE (b + 2) (by omega)).trans ha2
  have ha3 := (hE (b + 3) (by omega)).trans ha3
  have ha4 := (hE (b + 4) (by omega)).trans ha4
  have ha5 := (hE (b + 5) (by omega)).trans ha5
  have ha6 := (hE (b + 6) (by omega)).trans ha6
  have ha7 := (hE (b + 7) (by omega)).trans ha7
  have hF := hF.tr (hE.wid (by omega))
  exact R.vret hc rfl dX4_init_80 ⟨rfl, rfl, ⟨hO, fun k hk => match k, hk with | 0, _ => ⟨_, ha1, fun p hp => absurd hp (Nat.not_lt_zero _)⟩ | 1, _ => ⟨_, ha2, fun p hp => absurd hp (Nat.not_lt_zero _)⟩ | 2, _ => ⟨_, ha3, fun p hp => absurd hp (Nat.not_lt_zero _)⟩ | k + 3, hk => absurd hk (by omega), fun k hk => match k, hk with | 0, _ => ⟨_, ha4, fun p hp => absurd hp (Nat.not_lt_zero _)⟩ | 1, _ => ⟨_, ha5, fun p hp => absurd hp (Nat.not_lt_zero _)⟩ | 2, _ => ⟨_, ha6, fun p hp => absurd hp (Nat.not_lt_zero _)⟩ | k + 3, hk => absurd hk (by omega), ⟨_, ha7, fun p hp => absurd hp (Nat.not_lt_zero _)⟩⟩, hF⟩
set_option maxHeartbeats 4000000 in
set_option maxRecDepth 100000 in
theorem c_X0_init (l : Launch) (d : Nat) (X : Nat × (Nat → Int32)) {σ : Wd} (b : Nat) (hb9 : b ≤ 100) (hO : σ b = some (.inr (0, fdX0))) : CI l yX0_init cX0_init 1 (d + 1) 1 168 X (b + 1) b σ (b + 2) (fun σ' => Hi σ' b [] 0 0 ∧ Eqo b 2 σ σ') := by
  refine Con.of (by decide) [some (.ref b)] (fun _ => Nat.le_of_ble_eq_true rfl) (fun _ => rfl) (fun cx hc => ?_)
  have hF : Eqo b 2 σ σ := Eqo.rf
  refine R.aload_n (j := 0) (i := 0) hc rfl rfl dX0_init_0 ?_
  refine R.objInit hc lk_X0_5 (by omega) (Nat.le_of_ble_eq_true rfl) dX0_init_1 ?_
  refine R.aload_n (j := 0) (i := 0) hc rfl rfl dX0_init_4 ?_
  refine R.sipush hc sp_168 dX0_init_5 ?_
  refine R.nwI hc dX0_init_8 (Nat.le_of_ble_eq_true rfl) ⟨Nat.le_of_ble_eq_true rfl, Nat.le_of_ble_eq_true rfl⟩ (by omega) (by omega) (fun σ hX hE => ?_)
  have hO := (hE b (by omega)).trans hO
  have hF := hF.tr (hE.wid (by omega))
  have ha1 := hX
  refine R.putFG hc rfl gf_X0_11 dX0_init_10 hO (Nat.le_of_ble_eq_true rfl) (fun _ => rfl) (fun _ => rfl) (fun σ hX hE => ?_)
  have hO : σ b = some (.inr (0, [.ref (b + 1), .int 0, .int 0])) := hX
  have ha1 := (hE (b + 1) (by omega)).trans ha1
  have hF := hF.tr (hE.wid (by omega))
  refine R.aload_n (j := 0) (i := 0) hc rfl rfl dX0_init_13 ?_
  refine R.iconst hc ic_0 dX0_init_14 ?_
  refine R.putG hc gf_X0_15 dX0_init_15 hO (Nat.le_of_ble_eq_true rfl) (fun _ => rfl) (fun _ => rfl) (fun σ hX hE => ?_)
  have hO : σ b = some (.inr (0, [.ref (b + 1), .int (nI 0), .int 0])) := hX
  have ha1 := (hE (b + 1) (by omega)).trans ha1
  have hF := hF.tr (hE.wid (by omega))
  refine R.aload_n (j := 0) (i := 0) hc rfl rfl dX0_init_18 ?_
  refine R.iconst hc ic_0 dX0_init_19 ?_
  refine R.putG hc gf_X0_19 dX0_init_20 hO (Nat.le_of_ble_eq_true rfl) (fun _ => rfl) (fun _ => rfl) (fun σ hX hE => ?_)
  have hO : σ b = some (.inr (0, [.ref (b + 1), .int (nI 0), .int (nI 0)])) := hX
  have ha1 := (hE (b + 1) (by omega)).trans ha1
  have hF := hF.tr (hE.wid (by omega))
  exact R.vret hc rfl dX0_init_23 ⟨rfl, rfl, ⟨0, _, by omega, by simp, hO, ha1, fun i s hi => absurd hi (by simp)⟩, hF⟩
set_option maxHeartbeats 4000000 in
set_option maxRecDepth 100000 in
theorem c_X5_init (l : Launch) (d : Nat) (X : Nat × (Nat → Int32)) {σ : Wd} (b : Nat) (hb9 : b ≤ 100) (hO : σ b = some (.inr (5, fdX5))) : CI l yX5_init cX5_init 1 (d + 1) 1 90 X (b + 1) b σ (b + 2) (fun σ' => Tp σ' b (fun _ => 0) 0 0 ∧ Eqo b 2 σ σ') := by
  refine Con.of (by decide) [some (.ref b)] (fun _ => Nat.le_of_ble_eq_true rfl) (fun _ => rfl) (fun cx hc => ?_)
  have hF : Eqo b 2 σ σ := Eqo.rf
  refine R.aload_n (j := 0) (i := 0) hc rfl rfl dX5_init_0 ?_
  refine R.objInit hc lk_X5_3 (by omega) (Nat.le_of_ble_eq_true rfl) dX5_init_1 ?_
  refine R.aload_n (j := 0) (i := 0) hc rfl rfl dX5_init_4 ?_
  refine R.bipush hc bp_90 dX5_init_5 ?_
  refine R.nwC hc dX5_init_7 (Nat.le_of_ble_eq_true rfl) ⟨Nat.le_of_ble_eq_true rfl, Nat.le_of_ble_eq_true rfl⟩ (by omega) (by omega) (fun σ hX hE => ?_)
  have hO := (hE b (by omega)).trans hO
  have hF := hF.tr (hE.wid (by omega))
  have ha1 := hX
  refine R.putFG hc rfl gf_X5_11 dX5_init_9 hO (Nat.le_of_ble_eq_true rfl) (fun _ => rfl) (fun _ => rfl) (fun σ hX hE => ?_)
  have hO : σ b = some (.inr (5, [.ref (b + 1), .int 0, .int 0])) := hX
  have ha1 := (hE (b + 1) (by omega)).trans ha1
  have hF := hF.tr (hE.wid (by omega))
  refine R.aload_n (j := 0) (i := 0) hc rfl rfl dX5_init_12 ?_
  refine R.iconst hc ic_0 dX5_init_13 ?_
  refine R.putG hc gf_X5_15 dX5_init_14 hO (Nat.le_of_ble_eq_true rfl) (fun _ => rfl) (fun _ => rfl) (fun σ hX hE => ?_)
  have hO : σ b = some (.inr (5, [.ref (b + 1), .int (nI 0), .int 0])) := hX
  have ha1 := (hE (b + 1) (by omega)).trans ha1
  have hF := hF.tr (hE.wid (by omega))
  refine R.aload_n (j := 0) (i := 0) hc rfl rfl dX5_init_17 ?_
  refine R.iconst hc ic_0 dX5_init_18 ?_
  refine R.putG hc gf_X5_19 dX5_init_19 hO (Nat.le_of_ble_eq_true rfl) (fun _ => rfl) (fun _ => rfl) (fun σ hX hE => ?_)
  have hO : σ b = some (.inr (5, [.ref (b + 1), .int (nI 0), .int (nI 0)])) := hX
  have ha1 := (hE (b + 1) (by omega)).trans ha1
  have hF := hF.tr (hE.wid (by omega))
  exact R.vret hc rfl dX5_init_22 ⟨rfl, rfl, ⟨hO, _, ha1, fun i hi => absurd hi (Nat.not_lt_zero _)⟩, hF⟩
set_option maxHeartbeats 4000000 in
set_option maxRecDepth 100000 in
theorem c_X3_init (l : Launch) (d : Nat) (X : Nat × (Nat → Int32)) {σ : Wd} (b : Nat) (hb9 : b ≤ 100) (hO : σ b = some (.inr (3, fdX3))) : CI l yX3_init cX3_init 1 (d + 1) 3 104 X (b + 1) b σ (b + 4) (fun σ' => Sh σ' b (fun _ => 0) (fun _ => 0) (fun _ _ => 0) ∧ Eqo b 4 σ σ') := by
  refine Con.of (by decide) [some (.ref b)] (fun _ => Nat.le_of_ble_eq_true rfl) (fun _ => rfl) (fun cx hc => ?_)
  have hF : Eqo b 4 σ σ := Eqo.rf
  refine R.aload_n (j := 0) (i := 0) hc rfl rfl dX3_init_0 ?_
  refine R.objInit hc lk_X3_3 (by omega) (Nat.le_of_ble_eq_true rfl) dX3_init_1 ?_
  refine R.aload_n (j := 0) (i := 0) hc rfl rfl dX3_init_4 ?_
  refine R.iconst hc ic_4 dX3_init_5 ?_
  refine R.nwI hc dX3_init_6 (Nat.le_of_ble_eq_true rfl) ⟨Nat.le_of_ble_eq_true rfl, Nat.le_of_ble_eq_true rfl⟩ (by omega) (by omega) (fun σ hX hE => ?_)
  have hO := (hE b (by omega)).trans hO
  have hF := hF.tr (hE.wid (by omega))
  have ha1 := hX
  refine R.dup hc rfl dX3_init_8 ?_
  refine R.iconst hc ic_0 dX3_init_9 ?_
  refine R.iconst hc ic_m1 dX3_init_10 ?_
  refine R.iastG hc dX3_init_11 ha1 (by omega) (by decide) (fun σ hX hE => ?_)
  have hO := (hE b (by omega)).trans hO
  have hF := hF.tr (hE.wid (by omega))
  have ha1 := hX
  refine R.dup hc rfl dX3_init_12 ?_
  refine R.iconst hc ic_1 dX3_init_13 ?_
  refine R.iconst hc ic_m1 dX3_init_14 ?_
  refine R.iastG hc dX3_init_15 ha1 (by omega) (by decide) (fun σ hX hE => ?_)
  have hO := (hE b (by omega)).trans hO
  have hF := hF.tr (hE.wid (by omega))
  have ha1 := hX
  refine R.dup hc rfl dX3_init_16 ?_
  refine R.iconst hc ic_2 dX3_init_17 ?_
  refine R.iconst hc ic_m1 dX3_init_18 ?_
  refine R.iastG hc dX3_init_19 ha1 (by omega) (by decide) (fun σ hX hE => ?_)
  have hO := (hE b (by omega)).trans hO
  have hF := hF.tr (hE.wid (by omega))
  have ha1 := hX
  refine R.dup hc rfl dX3_init_20 ?_
  refine R.iconst hc ic_3 dX3_init_21 ?_
  refine R.iconst hc ic_m1 dX3_init_22 ?_
  refine R.iastG hc dX3_init_23 ha1 (by omega) (by decide) (fun σ hX hE => ?_)
  have hO := (hE b (by omega)).trans hO
  have hF := hF.tr (hE.wid (by omega))
  have ha1 := hX
  refine R.putFG hc rfl gf_X3_11 dX3_init_24 hO (Nat.le_of_ble_eq_true rfl) (fun _ => rfl) (fun _ => rfl) (fun σ hX hE => ?_)
  have hO : σ b = some (.inr (3, [.ref (b + 1), .null, .null])) := hX
  have ha1 := (hE (b + 1) (by omega)).trans ha1
  have hF := hF.tr (hE.wid (by omega))
  refine R.aload_n (j := 0) (i := 0) hc rfl rfl dX3_init_27 ?_
  refine R.iconst hc ic_4 dX3_init_28 ?_
  refine R.nwI hc dX3_init_29 (Nat.le_of_ble_eq_true rfl) ⟨Nat.le_of_ble_eq_true rfl, Nat.le_of_ble_eq_true rfl⟩ (by omega) (by omega) (fun σ hX hE => ?_)
  have hO := (hE b (by omega)).trans hO
  have ha1 := (hE (b + 1) (by omega)).trans ha1
  have hF := hF.tr (hE.wid (by omega))
  have ha2 := hX
  refine R.putFG hc rfl gf_X3_15 dX3_init_31 hO (Nat.le_of_ble_eq_true rfl) (fun _ => rfl) (fun _ => rfl) (fun σ hX hE => ?_)
  have hO : σ b = some (.inr (3, [.ref (b + 1), .ref (b + 2), .null])) := hX
  have ha1 := (hE (b + 1) (by omega)).trans ha1
  have ha2 := (hE (b + 2) (by omega)).trans ha2
  have hF := hF.tr (hE.wid (by omega))
  refine R.aload_n (j := 0) (i := 0) hc rfl rfl dX3_init_34 ?_
  refine R.bipush hc bp_96 dX3_init_35 ?_
  refine R.nwL hc dX3_init_37 (Nat.le_of_ble_eq_true rfl) ⟨Nat.le_of_ble_eq_true rfl, Nat.le_of_ble_eq_true rfl⟩ (by omega) (by omega) (fun σ hX hE => ?_)
  have hO := (hE b (by omega)).trans hO
  have ha1 := (hE (b + 1) (by omega)).trans ha1
  have ha2 := (hE (b + 2) (by omega)).trans ha2
  have hF := hF.tr (hE.wid (by omega))
  have ha3 := hX
  refine R.putFG hc rfl gf_X3_18 dX3_init_39 hO (Nat.le_of_ble_eq_true rfl) (fun _ => rfl) (fun _ => rfl) (fun σ hX hE => ?_)
  have hO : σ b = some (.inr (3, [.ref (b + 1), .ref (b + 2), .ref (b + 3)])) := hX
  have ha1 := (hE (b + 1) (by omega)).trans ha1
  have ha2 := (hE (b + 2) (by omega)).trans ha2
  have ha3 := (hE (b + 3) (by omega)).trans ha3
  have hF := hF.tr (hE.wid (by omega))
  exact R.vret hc rfl dX3_init_42 ⟨rfl, rfl, ⟨hO, ⟨_, ha1, fun s hs => by rcases (show s = 0 ∨ s = 1 ∨ s = 2 ∨ s = 3 by omega) with rfl | rfl | rfl | rfl <;> rfl⟩, ⟨_, ha2, fun s hs => rfl⟩, ⟨_, ha3, fun s hs i hi => absurd hi (Nat.not_lt_zero _)⟩⟩, hF⟩
set_option maxHeartbeats 4000000 in
set_option maxRecDepth 100000 in
theorem c_X1_init (l : Launch) (d : Nat) (X : Nat × (Nat → Int32)) {σ : Wd} (b : Nat) (hb9 : b ≤ 100) (hO : σ b = some (.inr (1, fdX1))) : CI l yX1_init cX1_init 1 (d + 1) 2 13 X (b + 1) b σ (b + 3) (fun σ' => (∃ f h T, Mt σ' b f h T) ∧ Eqo b 3 σ σ') := by
  refine Con.of (by decide) [some (.ref b)] (fun _ => Nat.le_of_ble_eq_true rfl) (fun _ => rfl) (fun cx hc => ?_)
  have hF : Eqo b 3 σ σ := Eqo.rf
  refine R.aload_n (j := 0) (i := 0) hc rfl rfl dX1_init_0 ?_
  refine R.objInit hc lk_X1_3 (by omega) (Nat.le_of_ble_eq_true rfl) dX1_init_1 ?_
  refine R.aload_n (j := 0) (i := 0) hc rfl rfl dX1_init_4 ?_
  refine R.bipush hc bp_6 dX1_init_5 ?_
  refine R.nwI hc dX1_init_7 (Nat.le_of_ble_eq_true rfl) ⟨Nat.le_of_ble_eq_true rfl, Nat.le_of_ble_eq_true rfl⟩ (by omega) (by omega) (fun σ hX hE => ?_)
  have hO := (hE b (by omega)).trans hO
  have hF := hF.tr (hE.wid (by omega))
  have ha1 := hX
  refine R.putFG hc rfl gf_X1_11 dX1_init_9 hO (Nat.le_of_ble_eq_true rfl) (fun _ => rfl) (fun _ => rfl) (fun σ hX hE => ?_)
  have hO : σ b = some (.inr (1, [.ref (b + 1), .null, .int 0])) := hX
  have ha1 := (hE (b + 1) (by omega)).trans ha1
  have hF := hF.tr (hE.wid (by omega))
  refine R.aload_n (j := 0) (i := 0) hc rfl rfl dX1_init_12 ?_
  refine R.bipush hc bp_7 dX1_init_13 ?_
  refine R.nwI hc dX1_init_15 (Nat.le_of_ble_eq_true rfl) ⟨Nat.le_of_ble_eq_true rfl, Nat.le_of_ble_eq_true rfl⟩ (by omega) (by omega) (fun σ hX hE => ?_)
  have hO := (hE b (by omega)).trans hO
  have ha1 := (hE (b + 1) (by omega)).trans ha1
  have hF := hF.tr (hE.wid (by omega))
  have ha2 := hX
  refine R.putFG hc rfl gf_X1_17 dX1_init_17 hO (Nat.le_of_ble_eq_true rfl) (fun _ => rfl) (fun _ => rfl) (fun σ hX hE => ?_)
  have hO : σ b = some (.inr (1, [.ref (b + 1), .ref (b + 2), .int 0])) := hX
  have ha1 := (hE (b + 1) (by omega)).trans ha1
  have ha2 := (hE (b + 2) (by omega)).trans ha2
  have hF := hF.tr (hE.wid (by omega))
  refine R.aload_n (j := 0) (i := 0) hc rfl rfl dX1_init_20 ?_
  refine R.iconst hc ic_0 dX1_init_21 ?_
  refine R.putG hc gf_X1_20 dX1_init_22 hO (Nat.le_of_ble_eq_true rfl) (fun _ => rfl) (fun _ => rfl) (fun σ hX hE => ?_)
  have hO : σ b = some (.inr (1, [.ref (b + 1), .ref (b + 2), .int (nI 0)])) := hX
  have ha1 := (hE (b + 1) (by omega)).trans ha1
  have ha2 := (hE (b + 2) (by omega)).trans ha2
  have hF := hF.tr (hE.wid (by omega))
  exact R.vret hc rfl dX1_init_25 ⟨rfl, rfl, ⟨_, fun _ => 1, 0, hO, ha1, _, ha2, fun p hp => rfl⟩, hF⟩
set_option maxHeartbeats 4000000 in
set_option maxRecDepth 100000 in
theorem c_X2_init (l : Launch) (d : Nat) (X : Nat × (Nat → Int32)) {σ : Wd} (b : Nat) (hb9 : b ≤ 100) (hO : σ b = some (.inr (2, fdX2))) : CI l yX2_init cX2_init 1 (d + 1) 3 54 X (b + 1) b σ (b + 4) (fun σ' => (∃ dep c bs np' sz' hl mo, Od σ' b dep c bs np' sz' hl mo) ∧ Eqo b 4 σ σ') := by
  refine Con.of (by decide) [some (.ref b)] (fun _ => Nat.le_of_ble_eq_true rfl) (fun _ => rfl) (fun cx hc => ?_)
  have hF : Eqo b 4 σ σ := Eqo.rf
  refine R.aload_n (j := 0) (i := 0) hc rfl rfl dX2_init_0 ?_
  refine R.objInit hc lk_X2_3 (by omega) (Nat.le_of_ble_eq_true rfl) dX2_init_1 ?_
  refine R.aload_n (j := 0) (i := 0) hc rfl rfl dX2_init_4 ?_
  refine R.bipush hc bp_42 dX2_init_5 ?_
  refine R.nwI hc dX2_init_7 (Nat.le_of_ble_eq_true rfl) ⟨Nat.le_of_ble_eq_true rfl, Nat.le_of_ble_eq_true rfl⟩ (by omega) (by omega) (fun σ hX hE => ?_)
  have hO := (hE b (by omega)).trans hO
  have hF := hF.tr (hE.wid (by omega))
  have ha1 := hX
  refine R.putFG hc rfl gf_X2_11 dX2_init_9 hO (Nat.le_of_ble_eq_true rfl) (fun _ => rfl) (fun _ => rfl) (fun σ hX hE => ?_)
  have hO : σ b = some (.inr (2, [.ref (b + 1), .null, .null, .int 0, .int 0, .int 0])) := hX
  have ha1 := (hE (b + 1) (by omega)).trans ha1
  have hF := hF.tr (hE.wid (by omega))
  refine R.aload_n (j := 0) (i := 0) hc rfl rfl dX2_init_12 ?_
  refine R.bipush hc bp_6 dX2_init_13 ?_
  refine R.nwI hc dX2_init_15 (Nat.le_of_ble_eq_true rfl) ⟨Nat.le_of_ble_eq_true rfl, Nat.le_of_ble_eq_true rfl⟩ (by omega) (by omega) (fun σ hX hE => ?_)
  have hO := (hE b (by omega)).trans hO
  have ha1 := (hE (b + 1) (by omega)).trans ha1
  have hF := hF.tr (hE.wid (by omega))
  have ha2 := hX
  refine R.putFG hc rfl gf_X2_17 dX2_init_17 hO (Nat.le_of_ble_eq_true rfl) (fun _ => rfl) (fun _ => rfl) (fun σ hX hE => ?_)
  have hO : σ b = some (.inr (2, [.ref (b + 1), .ref (b + 2), .null, .int 0, .int 0, .int 0])) := hX
  have ha1 := (hE (b + 1) (by omega)).trans ha1
  have ha2 := (hE (b + 2) (by omega)).trans ha2
  have hF := hF.tr (hE.wid (by omega))
  refine R.aload_n (j := 0) (i := 0) hc rfl rfl dX2_init_20 ?_
  refine R.bipush hc bp_6 dX2_init_21 ?_
  refine R.nwI hc dX2_init_23 (Nat.le_of_ble_eq_true rfl) ⟨Nat.le_of_ble_eq_true rfl, Nat.le_of_ble_eq_true rfl⟩ (by omega) (by omega) (fun σ hX hE => ?_)
  have hO := (hE b (by omega)).trans hO
  have ha1 := (hE (b + 1) (by omega)).trans ha1
  have ha2 := (hE (b + 2) (by omega)).trans ha2
  have hF := hF.tr (hE.wid (by omega))
  have ha3 := hX
  refine R.putFG hc rfl gf_X2_20 dX2_init_25 hO (Nat.le_of_ble_eq_true rfl) (fun _ => rfl) (fun _ => rfl) (fun σ hX hE => ?_)
  have hO : σ b = some (.inr (2, [.ref (b + 1), .ref (b + 2), .ref (b + 3), .int 0, .int 0, .int 0])) := hX
  have ha1 := (hE (b + 1) (by omega)).trans ha1
  have ha2 := (hE (b + 2) (by omega)).trans ha2
  have ha3 := (hE (b + 3) (by omega)).trans ha3
  have hF := hF.tr (hE.wid (by omega))
  refine R.aload_n (j := 0) (i := 0) hc rfl rfl dX2_init_28 ?_
  refine R.iconst hc ic_0 dX2_init_29 ?_
  refine R.putG hc gf_X2_23 dX2_init_30 hO (Nat.le_of_ble_eq_true rfl) (fun _ => rfl) (fun _ => rfl) (fun σ hX hE => ?_)
  have hO : σ b = some (.inr (2, [.ref (b + 1), .ref (b + 2), .ref (b + 3), .int (nI 0), .int 0, .int 0])) := hX
  have ha1 := (hE (b + 1) (by omega)).trans ha1
  have ha2 := (hE (b + 2) (by omega)).trans ha2
  have ha3 := (hE (b + 3) (by omega)).trans ha3
  have hF := hF.tr (hE.wid (by omega))
  refine R.aload_n (j := 0) (i := 0) hc rfl rfl dX2_init_33 ?_
  refine R.iconst hc ic_0 dX2_init_34 ?_
  refine R.putG hc gf_X2_27 dX2_init_35 hO (Nat.le_of_ble_eq_true rfl) (fun _ => rfl) (fun _ => rfl) (fun σ hX hE => ?_)
  have hO : σ b = some (.inr (2, [.ref (b + 1), .ref (b + 2), .ref (b + 3), .int (nI 0), .int (nI 0), .int 0])) := hX
  have ha1 := (hE (b + 1) (by omega)).trans ha1
  have ha2 := (hE (b + 2) (by omega)).trans ha2
  have ha3 := (hE (b + 3) (by omega)).trans ha3
  have hF := hF.tr (hE.wid (by omega))
  refine R.aload_n (j := 0) (i := 0) hc rfl rfl dX2_init_38 ?_
  refine R.iconst hc ic_0 dX2_init_39 ?_
  refine R.putG hc gf_X2_30 dX2_init_40 hO (Nat.le_of_ble_eq_true rfl) (fun _ => rfl) (fun _ => rfl) (fun σ hX hE => ?_)
  have hO : σ b = some (.inr (2, [.ref (b + 1), .ref (b + 2), .ref (b + 3), .int (nI 0), .int (nI 0), .int (nI 0)])) := hX
  have ha1 := (hE (b + 1) (by omega)).trans ha1
  have ha2 := (hE (b + 2) (by omega)).trans ha2
  have ha3 := (hE (b + 3) (by omega)).trans ha3
  have hF := hF.tr (hE.wid (by omega))
  exact R.vret hc rfl dX2_init_43 ⟨rfl, rfl, ⟨fun _ _ => 0, fun _ => 0, fun _ => 0, 0, 0, 0, 1, hO, ⟨_, ha1, fun k p hk => absurd hk (Nat.not_lt_zero _)⟩, ⟨_, ha2, fun j hj => rfl⟩, ⟨_, ha3, fun j hj => rfl⟩⟩, hF⟩
set_option maxHeartbeats 4000000 in
set_option maxRecDepth 100000 in
theorem c_X6_init (l : Launch) (d : Nat) (X : Nat × (Nat → Int32)) {σ : Wd} (hO : σ 0 = some (.inr (6, fdX6))) : CI l yX6_init cX6_init 1 (d + 2) 41 786 X 1 0 σ 42 (fun σ' => CA σ' (fun _ _ => 0) 0 0 0 1 [] none (fun _ => 0) 0 (fun _ => 0) (fun _ => 0) (fun _ _ => 0) ∧ Eqo 0 42 σ σ') := by
  refine Con.of (by decide) [some (.ref 0)] (fun _ => Nat.le_of_ble_eq_true rfl) (fun _ => rfl) (fun cx hc => ?_)
  have hF : Eqo 0 42 σ σ := Eqo.rf
  refine R.aload_n (j := 0) (i := 0) hc rfl rfl dX6_init_0 ?_
  refine R.objInit hc lk_X6_1 (by omega) (Nat.le_of_ble_eq_true rfl) dX6_init_1 ?_
  refine R.aload_n (j := 0) (i := 0) hc rfl rfl dX6_init_4 ?_
  refine R.nwO (n := 1) (ci := 4) (T := TX4) (N := 11) hc fdX4 dX6_init_5 tyX4_ok ginX4 nw_X4 rfl dfX4 ⟨Nat.le_of_ble_eq_true rfl, Nat.le_of_ble_eq_true rfl⟩ rfl (by omega) (fun σ hX hE => ?_)
  have hO := (hE 0 (by omega)).trans hO
  have hF := hF.tr (hE.wid (by omega))
  have hN := hX
  refine R.dup hc rfl dX6_init_8 ?_
  refine R.cN (n2 := 9) (host := RX6) hc m_X4_init (by simp [rl_nest, yX6_init]) dX6_init_9 (c_X4_init l d X 1 (by omega) hN) (by omega) ⟨Nat.le_of_ble_eq_true rfl, Nat.le_of_ble_eq_true rfl⟩ rfl (Nat.le_of_ble_eq_true rfl) (fun σ hX => ?_)
  obtain ⟨hY, hE⟩ := hX
  have hO := (hE 0 (by omega)).trans hO
  have hF := hF.tr (hE.wid (by omega))
  have q0 := hY
  refine R.putFG hc rfl gf_X6_10 dX6_init_12 hO (Nat.le_of_ble_eq_true rfl) (fun _ => rfl) (fun _ => rfl) (fun σ hX hE => ?_)
  have hO : σ 0 = some (.inr (6, [.ref 1, .null, .null, .null, .null, .int 0, .null, .null, .null, .null])) := hX
  have q0 := SX.ag q0 (fun j h1 h2 => hE j (by omega))
  have hF := hF.tr (hE.wid (by omega))
  refine R.aload_n (j := 0) (i := 0) hc rfl rfl dX6_init_15 ?_
  refine R.nwO (n := 9) (ci := 0) (T := TX0) (N := 3) hc fdX0 dX6_init_16 tyX0_ok ginX0 nw_X0 rfl dfX0 ⟨Nat.le_of_ble_eq_true rfl, Nat.le_of_ble_eq_true rfl⟩ rfl (by omega) (fun σ hX hE => ?_)
  have hO := (hE 0 (by omega)).trans hO
  have q0 := SX.ag q0 (fun j h1 h2 => hE j (by omega))
  have hF := hF.tr (hE.wid (by omega))
  have hN := hX
  refine R.dup hc rfl dX6_init_19 ?_
  refine R.cN (n2 := 11) (host := RX6) hc m_X0_init (by simp [rl_nest, yX6_init]) dX6_init_20 (c_X0_init l d X 9 (by omega) hN) (by omega) ⟨Nat.le_of_ble_eq_true rfl, Nat.le_of_ble_eq_true rfl⟩ rfl (Nat.le_of_ble_eq_true rfl) (fun σ hX => ?_)
  obtain ⟨hY, hE⟩ := hX
  have hO := (hE 0 (by omega)).trans hO
  have q0 := SX.ag q0 (fun j h1 h2 => hE j (by omega))
  have hF := hF.tr (hE.wid (by omega))
  have q1 := hY
  refine R.putFG hc rfl gf_X6_19 dX6_init_23 hO (Nat.le_of_ble_eq_true rfl) (fun _ => rfl) (fun _ => rfl) (fun σ hX hE => ?_)
  have hO : σ 0 = some (.inr (6, [.ref 1, .ref 9, .null, .null, .null, .int 0, .null, .null, .null, .null])) := hX
  have q0 := SX.ag q0 (fun j h1 h2 => hE j (by omega))
  have q1 := Hi.ag q1 (fun j h1 h2 => hE j (by omega))
  have hF := hF.tr (hE.wid (by omega))
  refine R.aload_n (j := 0) (i := 0) hc rfl rfl dX6_init_26 ?_
  refine R.nwO (n := 11) (ci := 4) (T := TX4) (N := 11) hc fdX4 dX6_init_27 tyX4_ok ginX4 nw_X4 rfl dfX4 ⟨Nat.le_of_ble_eq_true rfl, Nat.le_of_ble_eq_true rfl⟩ rfl (by omega) (fun σ hX hE => ?_)
  have hO := (hE 0 (by omega)).trans hO
  have q0 := SX.ag q0 (fun j h1 h2 => hE j (by omega))
  have q1 := Hi.ag q1 (fun j h1 h2 => hE j (by omega))
  have hF := hF.tr (hE.wid (by omega))
  have hN := hX
  refine R.dup hc rfl dX6_init_30 ?_
  refine R.cN (n2 := 19) (host := RX6) hc m_X4_init (by simp [rl_nest, yX6_init]) dX6_init_31 (c_X4_init l d X 11 (by omega) hN) (by omega) ⟨Nat.le_of_ble_eq_true rfl, Nat.le_of_ble_eq_true rfl⟩ rfl (Nat.le_of_ble_eq_true rfl) (fun σ hX => ?_)
  obtain ⟨hY, hE⟩ := hX
  have hO := (hE 0 (by omega)).trans hO
  have q0 := SX.ag q0 (fun j h1 h2 => hE j (by omega))
  have q1 := Hi.ag q1 (fun j h1 h2 => hE j (by omega))
  have hF := hF.tr (hE.wid (by omega))
  have q2 := hY
  refine R.putFG hc rfl gf_X6_23 dX6_init_34 hO (Nat.le_of_ble_eq_true rfl) (fun _ => rfl) (fun _ => rfl) (fun σ hX hE => ?_)
  have hO : σ 0 = some (.inr (6, [.ref 1, .ref 9, .ref 11, .null, .null, .int 0, .null, .null, .null, .null])) := hX
  have q0 := SX.ag q0 (fun j h1 h2 => hE j (by omega))
  have q1 := Hi.ag q1 (fun j h1 h2 => hE j (by omega))
  have q2 := SX.ag q2 (fun j h1 h2 => hE j (by omega))
  have hF := hF.tr (hE.wid (by omega))
  refine R.aload_n (j := 0) (i := 0) hc rfl rfl dX6_init_37 ?_
  refine R.nwO (n := 19) (ci := 4) (T := TX4) (N := 11) hc fdX4 dX6_init_38 tyX4_ok ginX4 nw_X4 rfl dfX4 ⟨Nat.le_of_ble_eq_true rfl, Nat.le_of_ble_eq_true rfl⟩ rfl (by omega) (fun σ hX hE => ?_)
  have hO := (hE 0 (by omega)).trans hO
  have q0 := SX.ag q0 (fun j h1 h2 => hE j (by omega))
  have q1 := Hi.ag q1 (fun j h1 h2 => hE j (by omega))
  have q2 := SX.ag q2 (fun j h1 h2 => hE j (by omega))
  have hF := hF.tr (hE.wid (by omega))
  have hN := hX
  refine R.dup hc rfl dX6_init_41 ?_
  refine R.cN (n2 := 27) (host := RX6) hc m_X4_init (by simp [rl_nest, yX6_init]) dX6_init_42 (c_X4_init l d X 19 (by omega) hN) (by omega) ⟨Nat.le_of_ble_eq_true rfl, Nat.le_of_ble_eq_true rfl⟩ rfl (Nat.le_of_ble_eq_true rfl) (fun σ hX => ?_)
  obtain ⟨hY, hE⟩ := hX
  have hO := (hE 0 (by omega)).trans hO
  have q0 := SX.ag q0 (fun j h1 h2 => hE j (by omega))
  have q1 := Hi.ag q1 (fun j h1 h2 => hE j (by omega))
  have q2 := SX.ag q2 (fun j h1 h2 => hE j (by omega))
  have hF := hF.tr (hE.wid (by omega))
  have q3 := hY
  refine R.putFG hc rfl gf_X6_26 dX6_init_45 hO (Nat.le_of_ble_eq_true rfl) (fun _ => rfl) (fun _ => rfl) (fun σ hX hE => ?_)
  have hO : σ 0 = some (.inr (6, [.ref 1, .ref 9, .ref 11, .ref 19, .null, .int 0, .null, .null, .null, .null])) := hX
  have q0 := SX.ag q0 (fun j h1 h2 => hE j (by omega))
  have q1 := Hi.ag q1 (fun j h1 h2 => hE j (by omega))
  have q2 := SX.ag q2 (fun j h1 h2 => hE j (by omega))
  have q3 := SX.ag q3 (fun j h1 h2 => hE j (by omega))
  have hF := hF.tr (hE.wid (by omega))
  refine R.aload_n (j := 0) (i := 0) hc rfl rfl dX6_init_48 ?_
  refine R.nwO (n := 27) (ci := 0) (T := TX0) (N := 3) hc fdX0 dX6_init_49 tyX0_ok ginX0 nw_X0 rfl dfX0 ⟨Nat.le_of_ble_eq_true rfl, Nat.le_of_ble_eq_true rfl⟩ rfl (by omega) (fun σ hX hE => ?_)
  have hO := (hE 0 (by omega)).trans hO
  have q0 := SX.ag q0 (fun j h1 h2 => hE j (by omega))
  have q1 := Hi.ag q1 (fun j h1 h2 => hE j (by omega))
  have q2 := SX.ag q2 (fun j h1 h2 => hE j (by omega))
  have q3 := SX.ag q3 (fun j h1 h2 => hE j (by omega))
  have hF := hF.tr (hE.wid (by omega))
  have hN := hX
  refine R.dup hc rfl dX6_init_52 ?_
  refine R.cN (n2 := 29) (host := RX6) hc m_X0_init (by simp [rl_nest, yX6_init]) dX6_init_53 (c_X0_init l d X 27 (by omega) hN) (by omega) ⟨Nat.le_of_ble_eq_true rfl, Nat.le_of_ble_eq_true rfl⟩ rfl (Nat.le_of_ble_eq_true rfl) (fun σ hX => ?_)
  obtain ⟨hY, hE⟩ := hX
  have hO := (hE 0 (by omega)).trans hO
  have q0 := SX.ag q0 (fun j h1 h2 => hE j (by omega))
  have q1 := Hi.ag q1 (fun j h1 h2 => hE j (by omega))
  have q2 := SX.ag q2 (fun j h1 h2 => hE j (by omega))
  have q3 := SX.ag q3 (fun j h1 h2 => hE j (by omega))
  have hF := hF.tr (hE.wid (by omega))
  have q4 := hY
  refine R.putFG hc rfl gf_X6_29 dX6_init_56 hO (Nat.le_of_ble_eq_true rfl) (fun _ => rfl) (fun _ => rfl) (fun σ hX hE => ?_)
  have hO : σ 0 = some (.inr (6, [.ref 1, .ref 9, .ref 11, .ref 19, .ref 27, .int 0, .null, .null, .null, .null])) := hX
  have q0 := SX.ag q0 (fun j h1 h2 => hE j (by omega))
  have q1 := Hi.ag q1 (fun j h1 h2 => hE j (by omega))
  have q2 := SX.ag q2 (fun j h1 h2 => hE j (by omega))
  have q3 := SX.ag q3 (fun j h1 h2 => hE j (by omega))
  have q4 := Hi.ag q4 (fun j h1 h2 => hE j (by omega))
  have hF := hF.tr (hE.wid (by omega))
  refine R.aload_n (j := 0) (i := 0) hc rfl rfl dX6_init_59 ?_
  refine R.iconst hc ic_0 dX6_init_60 ?_
  refine R.putG hc gf_X6_32 dX6_init_61 hO (Nat.le_of_ble_eq_true rfl) (fun _ => rfl) (fun _ => rfl) (fun σ hX hE => ?_)
  have hO : σ 0 = some (.inr (6, [.ref 1, .ref 9, .ref 11, .ref 19, .ref 27, .int (nI 0), .null, .null, .null, .null])) := hX
  have q0 := SX.ag q0 (fun j h1 h2 => hE j (by omega))
  have q1 := Hi.ag q1 (fun j h1 h2 => hE j (by omega))
  have q2 := SX.ag q2 (fun j h1 h2 => hE j (by omega))
  have q3 := SX.ag q3 (fun j h1 h2 => hE j (by omega))
  have q4 := Hi.ag q4 (fun j h1 h2 => hE j (by omega))
  have hF := hF.tr (hE.wid (by omega))
  refine R.aload_n (j := 0) (i := 0) hc rfl rfl dX6_init_64 ?_
  refine R.nwO (n := 29) (ci := 5) (T := TX5) (N := 3) hc fdX5 dX6_init_65 tyX5_ok ginX5 nw_X5 rfl dfX5 ⟨Nat.le_of_ble_eq_true rfl, Nat.le_of_ble_eq_true rfl⟩ rfl (by omega) (fun σ hX hE => ?_)
  have hO := (hE 0 (by omega)).trans hO
  have q0 := SX.ag q0 (fun j h1 h2 => hE j (by omega))
  have q1 := Hi.ag q1 (fun j h1 h2 => hE j (by omega))
  have q2 := SX.ag q2 (fun j h1 h2 => hE j (by omega))
  have q3 := SX.ag q3 (fun j h1 h2 => hE j (by omega))
  have q4 := Hi.ag q4 (fun j h1 h2 => hE j (by omega))
  have hF := hF.tr (hE.wid (by omega))
  have hN := hX
  refine R.dup hc rfl dX6_init_68 ?_
  refine R.cN (n2 := 31) (host := RX6) hc m_X5_init (by simp [rl_nest, yX6_init]) dX6_init_69 (c_X5_init l d X 29 (by omega) hN) (by omega) ⟨Nat.le_of_ble_eq_true rfl, Nat.le_of_ble_eq_true rfl⟩ rfl (Nat.le_of_ble_eq_true rfl) (fun σ hX => ?_)
  obtain ⟨hY, hE⟩ := hX
  have hO := (hE 0 (by omega)).trans hO
  have q0 := SX.ag q0 (fun j h1 h2 => hE j (by omega))
  have q1 := Hi.ag q1 (fun j h1 h2 => hE j (by omega))
  have q2 := SX.ag q2 (fun j h1 h2 => hE j (by omega))
  have q3 := SX.ag q3 (fun j h1 h2 => hE j (by omega))
  have q4 := Hi.ag q4 (fun j h1 h2 => hE j (by omega))
  have hF := hF.tr (hE.wid (by omega))
  have q5 := hY
  refine R.putFG hc rfl gf_X6_39 dX6_init_72 hO (Nat.le_of_ble_eq_true rfl) (fun _ => rfl) (fun _ => rfl) (fun σ hX hE => ?_)
  have hO : σ 0 = some (.inr (6, [.ref 1, .ref 9, .ref 11, .ref 19, .ref 27, .int (nI 0), .ref 29, .null, .null, .null])) := hX
  have q0 := SX.ag q0 (fun j h1 h2 => hE j (by omega))
  have q1 := Hi.ag q1 (fun j h1 h2 => hE j (by omega))
  have q2 := SX.ag q2 (fun j h1 h2 => hE j (by omega))
  have q3 := SX.ag q3 (fun j h1 h2 => hE j (by omega))
  have q4 := Hi.ag q4 (fun j h1 h2 => hE j (by omega))
  have q5 := Tp.ag q5 (fun j h1 h2 => hE j (by omega))
  have hF := hF.tr (hE.wid (by omega))
  refine R.aload_n (j := 0) (i := 0) hc rfl rfl dX6_init_75 ?_
  refine R.nwO (n := 31) (ci := 3) (T := TX3) (N := 3) hc fdX3 dX6_init_76 tyX3_ok ginX3 nw_X3 rfl dfX3 ⟨Nat.le_of_ble_eq_true rfl, Nat.le_of_ble_eq_true rfl⟩ rfl (by omega) (fun σ hX hE => ?_)
  have hO := (hE 0 (by omega)).trans hO
  have q0 := SX.ag q0 (fun j h1 h2 => hE j (by omega))
  have q1 := Hi.ag q1 (fun j h1 h2 => hE j (by omega))
  have q2 := SX.ag q2 (fun j h1 h2 => hE j (by omega))
  have q3 := SX.ag q3 (fun j h1 h2 => hE j (by omega))
  have q4 := Hi.ag q4 (fun j h1 h2 => hE j (by omega))
  have q5 := Tp.ag q5 (fun j h1 h2 => hE j (by omega))
  have hF := hF.tr (hE.wid (by omega))
  have hN := hX
  refine R.dup hc rfl dX6_init_79 ?_
  refine R.cN (n2 := 35) (host := RX6) hc m_X3_init (by simp [rl_nest, yX6_init]) dX6_init_80 (c_X3_init l d X 31 (by omega) hN) (by omega) ⟨Nat.le_of_ble_eq_true rfl, Nat.le_of_ble_eq_true rfl⟩ rfl (Nat.le_of_ble_eq_true rfl) (fun σ hX => ?_)
  obtain ⟨hY, hE⟩ := hX
  have hO := (hE 0 (by omega)).trans hO
  have q0 := SX.ag q0 (fun j h1 h2 => hE j (by omega))
  have q1 := Hi.ag q1 (fun j h1 h2 => hE j (by omega))
  have q2 := SX.ag q2 (fun j h1 h2 => hE j (by omega))
  have q3 := SX.ag q3 (fun j h1 h2 => hE j (by omega))
  have q4 := Hi.ag q4 (fun j h1 h2 => hE j (by omega))
  have q5 := Tp.ag q5 (fun j h1 h2 => hE j (by omega))
  have hF := hF.tr (hE.wid (by omega))
  have q6 := hY
  refine R.putFG hc rfl gf_X6_46 dX6_init_83 hO (Nat.le_of_ble_eq_true rfl) (fun _ => rfl) (fun _ => rfl) (fun σ hX hE => ?_)
  have hO : σ 0 = some (.inr (6, [.ref 1, .ref 9, .ref 11, .ref 19, .ref 27, .int (nI 0), .ref 29, .ref 31, .null, .null])) := hX
  have q0 := SX.ag q0 (fun j h1 h2 => hE j (by omega))
  have q1 := Hi.ag q1 (fun j h1 h2 => hE j (by omega))
  have q2 := SX.ag q2 (fun j h1 h2 => hE j (by omega))
  have q3 := SX.ag q3 (fun j h1 h2 => hE j (by omega))
  have q4 := Hi.ag q4 (fun j h1 h2 => hE j (by omega))
  have q5 := Tp.ag q5 (fun j h1 h2 => hE j (by omega))
  have q6 := Sh.ag q6 (fun j h1 h2 => hE j (by omega))
  have hF := hF.tr (hE.wid (by omega))
  refine R.aload_n (j := 0) (i := 0) hc rfl rfl dX6_init_86 ?_
  refine R.nwO (n := 35) (ci := 1) (T := TX1) (N := 3) hc fdX1 dX6_init_87 tyX1_ok ginX1 nw_X1 rfl dfX1 ⟨Nat.le_of_ble_eq_true rfl, Nat.le_of_ble_eq_true rfl⟩ rfl (by omega) (fun σ hX hE => ?_)
  have hO := (hE 0 (by omega)).trans hO
  have q0 := SX.ag q0 (fun j h1 h2 => hE j (by omega))
  have q1 := Hi.ag q1 (fun j h1 h2 => hE j (by omega))
  have q2 := SX.ag q2 (fun j h1 h2 => hE j (by omega))
  have q3 := SX.ag q3 (fun j h1 h2 => hE j (by omega))
  have q4 := Hi.ag q4 (fun j h1 h2 => hE j (by omega))
  have q5 := Tp.ag q5 (fun j h1 h2 => hE j (by omega))
  have q6 := Sh.ag q6 (fun j h1 h2 => hE j (by omega))
  have hF := hF.tr (hE.wid (by omega))
  have hN := hX
  refine R.dup hc rfl dX6_init_90 ?_
  refine R.cN (n2 := 38) (host := RX6) hc m_X1_init (by simp [rl_nest, yX6_init]) dX6_init_91 (c_X1_init l d X 35 (by omega) hN) (by omega) ⟨Nat.le_of_ble_eq_true rfl, Nat.le_of_ble_eq_true rfl⟩ rfl (Nat.le_of_ble_eq_true rfl) (fun σ hX => ?_)
  obtain ⟨hY, hE⟩ := hX
  have hO := (hE 0 (by omega)).trans hO
  have q0 := SX.ag q0 (fun j h1 h2 => hE j (by omega))
  have q1 := Hi.ag q1 (fun j h1 h2 => hE j (by omega))
  have q2 := SX.ag q2 (fun j h1 h2 => hE j (by omega))
  have q3 := SX.ag q3 (fun j h1 h2 => hE j (by omega))
  have q4 := Hi.ag q4 (fun j h1 h2 => hE j (by omega))
  have q5 := Tp.ag q5 (fun j h1 h2 => hE j (by omega))
  have q6 := Sh.ag q6 (fun j h1 h2 => hE j (by omega))
  have hF := hF.tr (hE.wid (by omega))
  have q7 := hY
  refine R.putFG hc rfl gf_X6_53 dX6_init_94 hO (Nat.le_of_ble_eq_true rfl) (fun _ => rfl) (fun _ => rfl) (fun σ hX hE => ?_)
  have hO : σ 0 = some (.inr (6, [.ref 1, .ref 9, .ref 11, .ref 19, .ref 27, .int (nI 0), .ref 29, .ref 31, .ref 35, .null])) := hX
  have q0 := SX.ag q0 (fun j h1 h2 => hE j (by omega))
  have q1 := Hi.ag q1 (fun j h1 h2 => hE j (by omega))
  have q2 := SX.ag q2 (fun j h1 h2 => hE j (by omega))
  have q3 := SX.ag q3 (fun j h1 h2 => hE j (by omega))
  have q4 := Hi.ag q4 (fun j h1 h2 => hE j (by omega))
  have q5 := Tp.ag q5 (fun j h1 h2 => hE j (by omega))
  have q6 := Sh.ag q6 (fun j h1 h2 => hE j (by omega))
  obtain ⟨f9, h9, T9, q7⟩ := q7
  have q7 : ∃ f h T, Mt σ 35 f h T := ⟨f9, h9, T9, Mt.ag q7 (fun j h1 h2 => hE j (by omega))⟩
  have hF := hF.tr (hE.wid (by omega))
  refine R.aload_n (j := 0) (i := 0) hc rfl rfl dX6_init_97 ?_
  refine R.nwO (n := 38) (ci := 2) (T := TX2) (N := 6) hc fdX2 dX6_init_98 tyX2_ok ginX2 nw_X2 rfl dfX2 ⟨Nat.le_of_ble_eq_true rfl, Nat.le_of_ble_eq_true rfl⟩ rfl (by omega) (fun σ hX hE => ?_)
  have hO := (hE 0 (by omega)).trans hO
  have q0 := SX.ag q0 (fun j h1 h2 => hE j (by omega))
  have q1 := Hi.ag q1 (fun j h1 h2 => hE j (by omega))
  have q2 := SX.ag q2 (fun j h1 h2 => hE j (by omega))
  have q3 := SX.ag q3 (fun j h1 h2 => hE j (by omega))
  have q4 := Hi.ag q4 (fun j h1 h2 => hE j (by omega))
  have q5 := Tp.ag q5 (fun j h1 h2 => hE j (by omega))
  have q6 := Sh.ag q6 (fun j h1 h2 => hE j (by omega))
  obtain ⟨f9, h9, T9, q7⟩ := q7
  have q7 : ∃ f h T, Mt σ 35 f h T := ⟨f9, h9, T9, Mt.ag q7 (fun j h1 h2 => hE j (by omega))⟩
  have hF := hF.tr (hE.wid (by omega))
  have hN := hX
  refine R.dup hc rfl dX6_init_101 ?_
  refine R.cN (n2 := 42) (host := RX6) hc m_X2_init (by simp [rl_nest, yX6_init]) dX6_init_102 (c_X2_init l d X 38 (by omega) hN) (by omega) ⟨Nat.le_of_ble_eq_true rfl, Nat.le_of_ble_eq_true rfl⟩ rfl (Nat.le_of_ble_eq_true rfl) (fun σ hX => ?_)
  obtain ⟨hY, hE⟩ := hX
  have hO := (hE 0 (by omega)).trans hO
  have q0 := SX.ag q0 (fun j h1 h2 => hE j (by omega))
  have q1 := Hi.ag q1 (fun j h1 h2 => hE j (by omega))
  have q2 := SX.ag q2 (fun j h1 h2 => hE j (by omega))
  have q3 := SX.ag q3 (fun j h1 h2 => hE j (by omega))
  have q4 := Hi.ag q4 (fun j h1 h2 => hE j (by omega))
  have q5 := Tp.ag q5 (fun j h1 h2 => hE j (by omega))
  have q6 := Sh.ag q6 (fun j h1 h2 => hE j (by omega))
  obtain ⟨f9, h9, T9, q7⟩ := q7
  have q7 : ∃ f h T, Mt σ 35 f h T := ⟨f9, h9, T9, Mt.ag q7 (fun j h1 h2 => hE j (by omega))⟩
  have hF := hF.tr (hE.wid (by omega))
  have q8 := hY
  refine R.putFG hc rfl gf_X6_60 dX6_init_105 hO (Nat.le_of_ble_eq_true rfl) (fun _ => rfl) (fun _ => rfl) (fun σ hX hE => ?_)
  have hO : σ 0 = some (.inr (6, [.ref 1, .ref 9, .ref 11, .ref 19, .ref 27, .int (nI 0), .ref 29, .ref 31, .ref 35, .ref 38])) := hX
  have q0 := SX.ag q0 (fun j h1 h2 => hE j (by omega))
  have q1 := Hi.ag q1 (fun j h1 h2 => hE j (by omega))
  have q2 := SX.ag q2 (fun j h1 h2 => hE j (by omega))
  have q3 := SX.ag q3 (fun j h1 h2 => hE j (by omega))
  have q4 := Hi.ag q4 (fun j h1 h2 => hE j (by omega))
  have q5 := Tp.ag q5 (fun j h1 h2 => hE j (by omega))
  have q6 := Sh.ag q6 (fun j h1 h2 => hE j (by omega))
  obtain ⟨f9, h9, T9, q7⟩ := q7
  have q7 : ∃ f h T, Mt σ 35 f h T := ⟨f9, h9, T9, Mt.ag q7 (fun j h1 h2 => hE j (by omega))⟩
  obtain ⟨d9, c9, b9, n9, s9, l9, m9, q8⟩ := q8
  have q8 : ∃ dep c bs np' sz' hl mo, Od σ 38 dep c bs np' sz' hl mo := ⟨d9, c9, b9, n9, s9, l9, m9, Od.ag q8 (fun j h1 h2 => hE j (by omega))⟩
  have hF := hF.tr (hE.wid (by omega))
  exact R.vret hc rfl dX6_init_108 ⟨rfl, rfl, ⟨hO, q0, q1, ⟨_, _, _, _, _, q2⟩, ⟨⟨_, _, _, _, _, q3⟩, _, _, _, q4⟩, ⟨_, q5⟩, q6, q7, q8⟩, hF⟩
