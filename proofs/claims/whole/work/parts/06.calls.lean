theorem rl_XE.next {X : Nat × (Nat → Int32)} {E : EE} {s U : State} {H : Heap} {locs : List Loc} (h : rl_XE X E s) (hE : E.1 ≤ s.heap.size) (hS : va_S (fun q => E.1 ≤ q) s.heap H locs) (hW : s.WarmedH U.vm) (hU : U.heap = H) : rl_XE X E U := by
  obtain ⟨h1, h2, h3, h4, h5, h6⟩ := h
  rw [← hU] at hS
  exact ⟨va_Z.moved hW.alike (h1.kept hS.2.1), h2.warm hW, vk_S.moved hW.alike (h3.kept hS.2.1), va_X.moved hW.alike (h4.kept (hS.2.1 _ (by omega) (by omega))), h5, fun q hq => (h6 q hq).warmM hW⟩
section RC
variable {cx : Cx} {l : Launch} {y : MethodName} {cc : ByteArray} {nL : Nat} {ret : Option FieldType} {d mc ms n0 : Nat} {X : Nat × (Nat → Int32)} {Q : Option Value → Nat → Wd → Prop} {kc ks n : Nat} {σ : Wd} {pc : Nat} {ls : List (Option Value)} {st : List Value}
/-- a method's contract out of the walk from its entry -/
theorem Con.of {args : List Value} (hy : plainName y.cls = true) (ls : List (Option Value)) (hlen : ∀ E, (lg_sl (args.map (rl_tv E))).length ≤ nL) (hls : ∀ E, rl_tl E 0 ls = lv_args 0 (args.map (rl_tv E)))
    (k : ∀ cx : Cx, cx = (l, y, cc, nL, ret, d, mc, ms, n, X, Q) → R cx 0 0 n σ 0 ls []) : Con l y cc nL ret d mc ms X n args σ Q := by
  intro dC dI dA E
  refine Met.ofW (cc := cc) (maxL := nL) (ret := ret) hy rfl ?_
  intro p e s m args' below meth c s₁ B hml hv
  obtain ⟨rfl, hH, hK, hX, hz, hz2⟩ := hv
  have hts := atoms_spec (ws := .code y cc nL ret :: g_tbl) B.pre
  have h1 := lv_entry (args.map (rl_tv E)) (n := nL) (hlen E)
  rw [lg_entry_eq]
  rw [← hls E] at h1
  exact k _ rfl p e s m _ below meth c dC dI dA E s.heap [] _ ⟨B.exec, B.bytes, B.returns, hml, findClass_of_methodNamed B.named, fun w h => hts w (List.mem_cons_of_mem _ h), B.notSynchronized, hK, hX, hz, (name_of_methodNamed B.named B.method).1, hz2⟩ hH va_S.rf h1
/-- behind a call -/
theorem rl_back {p : Program} {e : Env} {Rm : Room} {s : State} {m : MethodId} {args : Array Value} {below : List Frame} {meth : Method} {c : Code} {H : Heap} {locs : List Loc} {cells slots mc' ms' : Nat} {Qf : State → Prop} {la : Array Slot} {rest0 st0 : List Value} {a : Array Value} {E : EE} {dC : Nat → ClassId} {dI : Nat → Nat → Nat} {dA : Nat → ClassId} {Q' : Option Value → Nat → Wd → Prop} {H0 : Heap}
    (hr : va_Run p l e Rm s m args below meth c H locs cells slots mc' ms' (F0 m pc la st0) rest0 (rl_Qp Q' dC dI dA E a) (fun q => E.1 ≤ q)) (hS : va_S (fun q => E.1 ≤ q) H0 H locs)
    (kk : ∀ (v : Option Value) (n' : Nat) (σ' : Wd) (H1 : Heap) (locs1 : List Loc), Q' v n' σ' → rl_Hw dC dI dA E n' σ' H1 → va_S (fun q => E.1 ≤ q) H0 H1 locs1 → W p l e Rm s m args below meth c H1 locs1 (cells + mc') (slots + ms') Qf (F0 m (pc + 3) la ((v.map (rl_tv E)).toList ++ rest0))) : W p l e Rm s m args below meth c H locs cells slots Qf (F0 m pc la st0) := by
  intro T hT Y
  obtain ⟨v, st₀, t, T', L, h0, X', hL, e1, e2, ⟨⟨v1, n', σ', hv, hp, hb⟩, hz, hk⟩, st⟩ := hr T hT Y
  cases hv
  rw [h0] at hz hk
  obtain ⟨t2, a1, b1⟩ := kk v1 n' σ' T'.heap (locs ++ L) hp (by rw [e1]; exact hb) ⟨Nat.le_trans hS.1 (by rw [e1]; exact hz), fun q g1 g2 => by rw [e1, hk q (Nat.lt_of_lt_of_le g1 hS.1) g2]; exact hS.2.1 q g1 g2, fun q hq => by
      rcases List.mem_append.mp hq with h | h
      · exact hS.2.2 q h
      · exact hL q h⟩ T' rfl X'
  exact ⟨t2, st t2 a1, b1⟩
theorem rl_toList (E : EE) (v : Option Value) (rest : List Value) : (v.map (rl_tv E)).toList ++ rest.map (rl_tv E) = (v.toList ++ rest).map (rl_tv E) := by cases v <;> rfl
/-- what the tables say of a method that is called by its object -/
def rl_MV (y : MethodName) (cc : ByteArray) (nL : Nat) (ret : Option FieldType) (k : Nat) : Prop := Cond.instanceMethod y ∈ g_tbl ∧ Cond.selects y.cls y y ∈ g_tbl ∧ Cond.initialized y.cls ∈ g_tbl ∧ Cond.code y cc nL ret ∈ g_tbl ∧ (y.cls ≠ "java/lang/invoke/MethodHandle" ∧ y.cls ≠ "java/lang/invoke/VarHandle" ∧ (parseMethodDescriptor y.desc).map (fun d => d.parameters.length) = some k) ∧ nL ≤ 40
def rl_MS (y : MethodName) (cc : ByteArray) (nL : Nat) (ret : Option FieldType) (k : Nat) : Prop := Cond.static y ∈ g_tbl ∧ Cond.initialized y.cls ∈ g_tbl ∧ Cond.code y cc nL ret ∈ g_tbl ∧ (y.cls ≠ "java/lang/invoke/MethodHandle" ∧ y.cls ≠ "java/lang/invoke/VarHandle" ∧ (parseMethodDescriptor y.desc).map (fun d => d.parameters.length) = some k) ∧ nL ≤ 40
def rl_MI (y : MethodName) (cc : ByteArray) (nL : Nat) (k : Nat) : Prop := Cond.instanceMethod y ∈ g_tbl ∧ y.name = "<init>" ∧ Cond.initialized y.cls ∈ g_tbl ∧ Cond.code y cc nL none ∈ g_tbl ∧ (y.cls ≠ "java/lang/invoke/MethodHandle" ∧ y.cls ≠ "java/lang/invoke/VarHandle" ∧ (parseMethodDescriptor y.desc).map (fun d => d.parameters.length) = some k) ∧ nL ≤ 40
theorem rl_words {ws : List Cond} {c0 : Cond} (h0 : c0 ∈ g_tbl) (h : ∀ w ∈ ws, w ∈ g_tbl) : GoodIn g_tbl (ws ++ (c0 :: g_tbl)) := by
  intro w hw
  have hm : w ∈ g_tbl := by
    rcases List.mem_append.mp hw with a | a
    · exact h w a
    · rcases List.mem_cons.mp a with rfl | a
      · exact h0
      · exact a
  exact ⟨hm, g_good w hm⟩
/-- the callee's start -/
theorem rl_pre {dC : Nat → ClassId} {dI : Nat → Nat → Nat} {dA : Nat → ClassId} {E : EE} {s : State} {H : Heap} {locs : List Loc} {mc' : Nat} {av : List Value} (hH : rl_Hw dC dI dA E n σ H) (hK : va_K (dC, dI) vwCl (rl_tys dA) s) (hX : rl_XE X E s) (hE : E.1 ≤ s.heap.size) (hS : va_S (fun q => E.1 ≤ q) s.heap H locs) (hz : mc' = 0 ∨ H.size ≤ E.1 + n) : PreS s H (va_Pc (av.map (rl_tv E)) (fun U => rl_Hw dC dI dA E n σ U.heap ∧ va_K (dC, dI) vwCl (rl_tys dA) U ∧ rl_XE X E U ∧ E.1 ≤ U.heap.size ∧ (mc' = 0 ∨ U.heap.size ≤ E.1 + n))) (av.map (rl_tv E)) := by
  refine ⟨fun a U g mk q => ?_, fun U hU hW => ?_⟩
  · obtain ⟨q0, q1, q2, q3, q4, q5⟩ := q
    refine ⟨q0, q1, va_K.moved (u := U) (U := U.calling g mk a) (Vm.Alike.refl U.vm) q2, ?_, q4, q5⟩
    obtain ⟨x1, x2, x3, x4, x5, x6⟩ := q3
    exact ⟨va_Z.moved (u := U) (U := U.calling g mk a) (Vm.Alike.refl U.vm) x1, vk_R.same (u := U) (U := U.calling g mk a) rfl x2, vk_S.moved (u := U) (U := U.calling g mk a) (Vm.Alike.refl U.vm) x3, va_X.moved (u := U) (U := U.calling g mk a) (Vm.Alike.refl U.vm) x4, x5, fun q hq => va_Nw.same rfl (u := U) (U := U.calling g mk a) rfl (x6 q hq)⟩
  · exact ⟨rfl, by rw [hU]; exact hH, va_K.moved hW.alike hK, hX.next hE hS hW hU, by rw [hU]; exact Nat.le_trans hE hS.1, by rw [hU]; exact hz⟩

theorem R.callV (hc : cx = (l, y, cc, nL, ret, d, mc, ms, n0, X, Q)) {y' : MethodName} {cc' : ByteArray} {nL' : Nat} {ret' : Option FieldType} {d' mc' ms' k9 idx : Nat} {As rest : List Value} {Q' : Option Value → Nat → Wd → Prop} {b ci : Nat} {fs : List Value} (hM : rl_MV y' cc' nL' ret' k9) (hL : Cond.methodLink y.cls idx y' ∈ g_tbl) (hC : Con l y' cc' nL' ret' d' mc' ms' X n (.ref b :: As) σ Q') (hb : σ b = some (.inr (ci, fs))) (hci : (vwCl[ci]?).map (fun q => q.1) = some y'.cls) (hk : As.length = k9) (hdd : d' + 1 ≤ d) (hm : kc + mc' ≤ mc ∧ ks + ms' ≤ ms) (hnn : mc' = 0 ∨ n = n0 + kc) (hcat : (rest.map fun v => v.category).sum ≤ 8) (hd : decode cc pc = .ok (.invokevirtual idx, 3)) (kk : ∀ (v : Option Value) (n' : Nat) (σ' : Wd), Q' v n' σ' → R cx (kc + mc') (ks + ms') n' σ' (pc + 3) ls (v.toList ++ rest)) : R cx kc ks n σ pc ls (As.reverse ++ .ref b :: rest) := by
  subst hc
  intro p e s m args below meth c dC dI dA E H locs la F hH hS hl
  refine rl_known (fun hsz => ?_)
  have hz : mc' = 0 ∨ H.size ≤ E.1 + n := by
    rcases hnn with h | h
    · exact Or.inl h
    · by_cases h0 : mc' = 0
      · exact Or.inl h0
      · rcases F.2.2.2.2.2.2.2.2.2.2.2 with g | g
        · exact absurd g (by show ¬ mc = 0; omega)
        · have g : s.heap.size ≤ E.1 + n0 := g
          exact Or.inr (by omega)
  obtain ⟨m1, m2, m3, m4, m5, m6⟩ := hM
  obtain ⟨q9, hq9, hq8⟩ : ∃ q, vwCl[ci]? = some q ∧ q.1 = y'.cls := by
    cases hz9 : vwCl[ci]? with
    | none => rw [hz9] at hci; cases hci
    | some q => rw [hz9] at hci; exact ⟨q, rfl, Option.some.inj hci⟩
  have hpre := rl_pre (av := .ref b :: As) (mc' := mc') hH F.2.2.2.2.2.2.2.1 F.2.2.2.2.2.2.2.2.1 F.2.2.2.2.2.2.2.2.2.1 hS hz
  have hrv := va_recv (q0 := b) F.2.2.2.2.2.2.2.1 hH.2.2 hq9 (rl_tw_at hb (rl_lt hH hb))
  rw [hq8] at hrv
  refine rl_back (rest0 := rest.map (rl_tv E)) (va_runV (C := y'.cls) (bytes := cc') (maxL := nL') (ret := ret') (ws := .code y' cc' nL' ret' :: g_tbl) (Ts := g_tbl) (cc := cc) (nL := nL) (own := y.cls) (As := As.map (rl_tv E)) (b := rl_ad E b) (n := k9) ⟨F.1, F.2.1, F.2.2.2.1, F.2.2.2.2.1, F.2.2.2.2.2.1⟩ (hC dC dI dA E) (cwV (ws' := g_tbl) k9 F.2.2.2.2.2.1 (by unfold wsV; exact rl_words m4 (fun w hw => by simp only [List.mem_cons, List.not_mem_nil, or_false] at hw; rcases hw with rfl | rfl | rfl | rfl; exact hL; exact m1; exact m2; exact m3)) rfl rfl rfl ⟨rfl, m5⟩ ⟨hdd, by show 8 + (nL' + 11) + 64 * d' ≤ 64 * d; omega⟩) ⟨hpre.1, hrv, hpre.2⟩ rfl (by rw [List.length_map]; exact hk) hl.1 (by simp [rl_tv]) (lv_room (by rw [rl_cats]; exact hcat)) hd hm) hS (fun v n' σ' H1 locs1 hq hH1 hS1 => ?_)
  rw [rl_toList]
  exact kk v n' σ' hq p e s m args below meth c dC dI dA E H1 locs1 la F hH1 hS1 hl
theorem R.callS (hc : cx = (l, y, cc, nL, ret, d, mc, ms, n0, X, Q)) {y' : MethodName} {cc' : ByteArray} {nL' : Nat} {ret' : Option FieldType} {d' mc' ms' k9 idx : Nat} {As rest : List Value} {Q' : Option Value → Nat → Wd → Prop} (hM : rl_MS y' cc' nL' ret' k9) (hL : Cond.methodLink y.cls idx y' ∈ g_tbl) (hC : Con l y' cc' nL' ret' d' mc' ms' X n As σ Q') (hk : As.length = k9) (hdd : d' + 1 ≤ d) (hm : kc + mc' ≤ mc ∧ ks + ms' ≤ ms) (hnn : mc' = 0 ∨ n = n0 + kc) (hcat : (rest.map fun v => v.category).sum ≤ 8) (hd : decode cc pc = .ok (.invokestatic idx, 3)) (kk : ∀ (v : Option Value) (n' : Nat) (σ' : Wd), Q' v n' σ' → R cx (kc + mc') (ks + ms') n' σ' (pc + 3) ls (v.toList ++ rest)) : R cx kc ks n σ pc ls (As.reverse ++ rest) := by
  subst hc
  intro p e s m args below meth c dC dI dA E H locs la F hH hS hl
  refine rl_known (fun hsz => ?_)
  have hz : mc' = 0 ∨ H.size ≤ E.1 + n := by
    rcases hnn with h | h
    · exact Or.inl h
    · by_cases h0 : mc' = 0
      · exact Or.inl h0
      · rcases F.2.2.2.2.2.2.2.2.2.2.2 with g | g
        · exact absurd g (by show ¬ mc = 0; omega)
        · have g : s.heap.size ≤ E.1 + n0 := g
          exact Or.inr (by omega)
  obtain ⟨m2, m3, m4, m5, m6⟩ := hM
  have hpre := rl_pre (av := As) (mc' := mc') hH F.2.2.2.2.2.2.2.1 F.2.2.2.2.2.2.2.2.1 F.2.2.2.2.2.2.2.2.2.1 hS hz
  refine rl_back (rest0 := rest.map (rl_tv E)) (va_runS (bytes := cc') (maxL := nL') (ret := ret') (ws := .code y' cc' nL' ret' :: g_tbl) (Ts := g_tbl) (cc := cc) (nL := nL) (own := y.cls) (As := As.map (rl_tv E)) (n := k9) ⟨F.1, F.2.1, F.2.2.2.1, F.2.2.2.2.1, F.2.2.2.2.2.1⟩ (hC dC dI dA E) (va_cwS (ws' := g_tbl) k9 F.2.2.2.2.2.1 (by unfold va_wsS; exact rl_words m4 (fun w hw => by simp only [List.mem_cons, List.not_mem_nil, or_false] at hw; rcases hw with rfl | rfl | rfl; exact hL; exact m2; exact m3)) rfl rfl rfl m5 ⟨hdd, by show 8 + (nL' + 11) + 64 * d' ≤ 64 * d; omega⟩) hpre rfl (by rw [List.length_map]; exact hk) hl.1 (by simp [rl_tv]) (lv_room (by rw [rl_cats]; exact hcat)) hd hm) hS (fun v n' σ' H1 locs1 hq hH1 hS1 => ?_)
  rw [rl_toList]
  exact kk v n' σ' hq p e s m args below meth c dC dI dA E H1 locs1 la F hH1 hS1 hl
theorem R.callI (hc : cx = (l, y, cc, nL, ret, d, mc, ms, n0, X, Q)) {y' : MethodName} {cc' : ByteArray} {nL' : Nat} {ret' : Option FieldType} {d' mc' ms' k9 idx : Nat} {As rest : List Value} {Q' : Option Value → Nat → Wd → Prop} {b : Nat} (hr : ret' = none) (hM : rl_MI y' cc' nL' k9) (hL : Cond.methodLink y.cls idx y' ∈ g_tbl) (hC : Con l y' cc' nL' none d' mc' ms' X n (.ref b :: As) σ Q') (hk : As.length = k9) (hdd : d' + 1 ≤ d) (hm : kc + mc' ≤ mc ∧ ks + ms' ≤ ms) (hnn : mc' = 0 ∨ n = n0 + kc) (hcat : (rest.map fun v => v.category).sum ≤ 8) (hd : decode cc pc = .ok (.invokespecial idx, 3)) (kk : ∀ (v : Option Value) (n' : Nat) (σ' : Wd), Q' v n' σ' → R cx (kc + mc') (ks + ms') n' σ' (pc + 3) ls (v.toList ++ rest)) : R cx kc ks n σ pc ls (As.reverse ++ .ref b :: rest) := by
  subst hc
  intro p e s m args below meth c dC dI dA E H locs la F hH hS hl
  refine rl_known (fun hsz => ?_)
  have hz : mc' = 0 ∨ H.size ≤ E.1 + n := by
    rcases hnn with h | h
    · exact Or.inl h
    · by_cases h0 : mc' = 0
      · exact Or.inl h0
      · rcases F.2.2.2.2.2.2.2.2.2.2.2 with g | g
        · exact absurd g (by show ¬ mc = 0; omega)
        · have g : s.heap.size ≤ E.1 + n0 := g
          exact Or.inr (by omega)
  obtain ⟨m1, m2, m3, m4, m5, m6⟩ := hM
  have hpre := rl_pre (av := .ref b :: As) (mc' := mc') hH F.2.2.2.2.2.2.2.1 F.2.2.2.2.2.2.2.2.1 F.2.2.2.2.2.2.2.2.2.1 hS hz
  refine rl_back (rest0 := rest.map (rl_tv E)) (va_runI (bytes := cc') (maxL := nL') (ws := .code y' cc' nL' none :: g_tbl) (Ts := g_tbl) (cc := cc) (nL := nL) (own := y.cls) (As := As.map (rl_tv E)) (b := rl_ad E b) (n := k9) ⟨F.1, F.2.1, F.2.2.2.1, F.2.2.2.2.1, F.2.2.2.2.2.1⟩ (hC dC dI dA E) (cwI (ws' := g_tbl) k9 F.2.2.2.2.2.1 (rl_words (ws := []) m4 (fun w hw => by cases hw)) rfl rfl rfl (F.2.2.2.2.2.1 _ m3) (F.2.2.2.2.2.1 _ hL) (F.2.2.2.2.2.1 _ m1) m2 m5 ⟨hdd, by show 8 + (nL' + 11) + 64 * d' ≤ 64 * d; omega⟩) hpre rfl (by rw [List.length_map]; exact hk) hl.1 (by simp [rl_tv]) (lv_room (by rw [rl_cats]; exact hcat)) hd hm) hS (fun v n' σ' H1 locs1 hq hH1 hS1 => ?_)
  rw [rl_toList]
  exact kk v n' σ' hq p e s m args below meth c dC dI dA E H1 locs1 la F hH1 hS1 hl
theorem R.callN (hc : cx = (l, y, cc, nL, ret, d, mc, ms, n0, X, Q)) {y' : MethodName} {cc' : ByteArray} {nL' : Nat} {ret' : Option FieldType} {d' mc' ms' k9 idx : Nat} {As rest : List Value} {Q' : Option Value → Nat → Wd → Prop} {b : Nat} {host : String} (hr : ret' = none) (hM : rl_MI y' cc' nL' k9) (hL : (y.cls, idx, y', host) ∈ rl_nest) (hC : Con l y' cc' nL' none d' mc' ms' X n (.ref b :: As) σ Q') (hk : As.length = k9) (hdd : d' + 1 ≤ d) (hm : kc + mc' ≤ mc ∧ ks + ms' ≤ ms) (hnn : mc' = 0 ∨ n = n0 + kc) (hcat : (rest.map fun v => v.category).sum ≤ 8) (hd : decode cc pc = .ok (.invokespecial idx, 3)) (kk : ∀ (v : Option Value) (n' : Nat) (σ' : Wd), Q' v n' σ' → R cx (kc + mc') (ks + ms') n' σ' (pc + 3) ls (v.toList ++ rest)) : R cx kc ks n σ pc ls (As.reverse ++ .ref b :: rest) := by
  subst hc
  intro p e s m args below meth c dC dI dA E H locs la F hH hS hl
  refine rl_known (fun hsz => ?_)
  have hz : mc' = 0 ∨ H.size ≤ E.1 + n := by
    rcases hnn with h | h
    · exact Or.inl h
    · by_cases h0 : mc' = 0
      · exact Or.inl h0
      · rcases F.2.2.2.2.2.2.2.2.2.2.2 with g | g
        · exact absurd g (by show ¬ mc = 0; omega)
        · have g : s.heap.size ≤ E.1 + n0 := g
          exact Or.inr (by omega)
  obtain ⟨m1, m2, m3, m4, m5, m6⟩ := hM
  have hpre := rl_pre (av := .ref b :: As) (mc' := mc') hH F.2.2.2.2.2.2.2.1 F.2.2.2.2.2.2.2.2.1 F.2.2.2.2.2.2.2.2.2.1 hS hz
  refine rl_back (rest0 := rest.map (rl_tv E)) (va_runIN (bytes := cc') (maxL := nL') (ws := .code y' cc' nL' none :: g_tbl) (Ts := g_tbl) (cc := cc) (nL := nL) (own := y.cls) (host := host) (As := As.map (rl_tv E)) (b := rl_ad E b) (n := k9) ⟨F.1, F.2.1, F.2.2.2.1, F.2.2.2.2.1, F.2.2.2.2.2.1⟩ (hC dC dI dA E) ⟨va_cnB (ws' := g_tbl) k9 F.2.2.2.2.2.1 (rl_words (ws := []) m4 (fun w hw => by cases hw)) rfl rfl rfl (F.2.2.2.2.2.2.2.2.1.2.2.2.2.2 _ hL) (F.2.2.2.2.2.1 _ m3) m5 ⟨hdd, by show 8 + (nL' + 11) + 64 * d' ≤ 64 * d; omega⟩, m2, F.2.2.2.2.2.1 _ m1⟩ hpre rfl (by rw [List.length_map]; exact hk) hl.1 (by simp [rl_tv]) (lv_room (by rw [rl_cats]; exact hcat)) hd hm) hS (fun v n' σ' H1 locs1 hq hH1 hS1 => ?_)
  rw [rl_toList]
  exact kk v n' σ' hq p e s m args below meth c dC dI dA E H1 locs1 la F hH1 hS1 hl
theorem rl_oi1 : Cond.instanceMethod Lib.objectInit ∈ g_tbl := g_mem (by decide +kernel) rfl
theorem rl_oi2 : Cond.code Lib.objectInit ⟨#[0xb1]⟩ 1 none ∈ g_tbl := g_mem (by decide +kernel) rfl
theorem R.objInit (hc : cx = (l, y, cc, nL, ret, d, mc, ms, n0, X, Q)) {i idx : Nat} (hw : Cond.methodLink y.cls idx Lib.objectInit ∈ g_tbl) (hd1 : 1 ≤ d) (hcat : (st.map fun v => v.category).sum ≤ 8) (hd : decode cc pc = .ok (.invokespecial idx, 3)) (k : R cx kc ks n σ (pc + 3) ls st) : R cx kc ks n σ pc ls (.ref i :: st) := by
  subst hc
  intro p e s m args below meth c dC dI dA E H locs la F hH hS hl
  refine W.objInit F.1 F.2.1 F.2.2.2.2.1 (F.2.2.2.2.2.1 _ hw) (F.2.2.2.2.2.1 _ rl_oi1) (F.2.2.2.2.2.1 _ rl_oi2) rfl (hl.1.trans F.2.2.2.1.symm) rfl hd (show 1 ≤ d from hd1) ?_ (k p e s m args below meth c dC dI dA E H locs la F hH hS hl)
  rw [rl_cats]
  show 2 * 0 + _ + 12 ≤ 64 * d
  omega

theorem R.new (hc : cx = (l, y, cc, nL, ret, d, mc, ms, n0, X, Q)) {idx ci N : Nat} {C : String} {T : u_T} {fs : List Value} (ty : Nat → FieldType) (hty : ∀ k, k < N → parseFieldDescriptor (T k).2.2.1 = some (ty k)) (hin : ∀ w ∈ u_ws C T N, w ∈ g_tbl) (hcl : Cond.classLink y.cls idx C ∈ g_tbl) (hinst : Cond.instantiable C N ∈ g_tbl) (hini : Cond.initialized C ∈ g_tbl) (hci : vwCl[ci]? = some (C, T, N)) (hfs : ∀ E, ∀ j, j < N → defaultValue (ty j) = vp_V (fs.map (rl_tv E)) j) (hm : kc + 1 ≤ mc ∧ ks + N ≤ ms) (hnn : n = n0 + kc) (hn : n + 1 ≤ 1000000) (hd : decode cc pc = .ok (.new idx, 3))
    (kk : R cx (kc + 1) (ks + N) (n + 1) (rl_up σ n (.inr (ci, fs))) (pc + 3) ls (.ref n :: st)) : R cx kc ks n σ pc ls st := by
  subst hc
  intro p e s m args below meth c dC dI dA E H locs la F hH hS hl
  refine va_new (ci := ci) (fs := fs.map (rl_tv E)) F.1 F.2.1 F.2.2.2.2.2.1 hin ty hty F.2.2.2.2.1 (F.2.2.2.2.2.1 _ hcl) (F.2.2.2.2.2.1 _ hinst) (F.2.2.2.2.2.1 _ hini) F.2.2.2.2.2.2.2.1 hH.2.2 (rl_D hH.1) hS (fun q hq => Nat.le_trans F.2.2.2.2.2.2.2.2.2.1 hq) hci (hfs E) hm.1 hm.2 hd (fun q H1 hP hD hS1 => ?_)
  refine rl_known (fun hsz => ?_)
  have hz : H1.size ≤ E.1 + n + 1 := by
    rcases F.2.2.2.2.2.2.2.2.2.2.2 with g | g
    · exact absurd g (by show ¬ mc = 0; omega)
    · have g : s.heap.size ≤ E.1 + n0 := g
      omega
  obtain ⟨rfl, hH1⟩ := rl_Hw.push (c := .inr (ci, fs)) ⟨hn, hH.2.1⟩ hP hD hz
  exact kk p e s m args below meth c dC dI dA E H1 locs la F hH1 hS1 hl
theorem R.newarr (hc : cx = (l, y, cc, nL, ret, d, mc, ms, n0, X, Q)) {at9 : ArrayType} {t9 N : Nat} {ty : FieldType} {a0 : vp_A} (harr : Cond.arrayClass ty ∈ g_tbl) (hty : newarray.typeOf at9 = ty) (ht : ∀ dA, (rl_tys dA)[t9]? = some (dA t9, ty)) (hRA : ∀ (U : State) (c1 c2 : ClassId), va_RA U c1 ty → va_RA U c2 ty → c1 = c2) (ha : ∀ cA : ClassId, vp_cell cA a0 = arrV cA N (fun _ => defaultValue ty)) (hN : N < 2 ^ 31) (hby : N * componentBytes ty ≤ 536870912) (hm : kc + 1 ≤ mc ∧ ks + N ≤ ms) (hnn : n = n0 + kc) (hn : n + 1 ≤ 1000000) (hd : decode cc pc = .ok (.newarray at9, 2))
    (kk : R cx (kc + 1) (ks + N) (n + 1) (rl_up σ n (.inl (t9, a0))) (pc + 2) ls (.ref n :: st)) : R cx kc ks n σ pc ls (.int (nI N) :: st) := by
  subst hc
  intro p e s m args below meth c dC dI dA E H locs la F hH hS hl
  refine va_newa F.1 F.2.1 (F.2.2.2.2.2.1 _ (by rw [hty]; exact harr)) hty F.2.2.2.2.2.2.2.1 hH.2.2 (rl_D hH.1) hS (fun q hq => Nat.le_trans F.2.2.2.2.2.2.2.2.2.1 hq) ha (nI_pos hN) (nI_clamp hN) hby hm.1 hm.2 hd (fun q cA H1 hK hP hD hS1 => ?_)
  refine rl_known (fun hsz => ?_)
  have hz : H1.size ≤ E.1 + n + 1 := by
    rcases F.2.2.2.2.2.2.2.2.2.2.2 with g | g
    · exact absurd g (by show ¬ mc = 0; omega)
    · have g : s.heap.size ≤ E.1 + n0 := g
      omega
  have e1 : cA = dA t9 := by
    refine hRA s _ _ (hK.2 3 (cA, ty) rfl).2 ?_
    exact (F.2.2.2.2.2.2.2.1.2 t9 _ (ht dA)).2
  subst e1
  obtain ⟨rfl, hH1⟩ := rl_Hw.push (c := .inl (t9, a0)) ⟨hn, hH.2.1⟩ hP hD hz
  exact kk p e s m args below meth c dC dI dA E H1 locs la F hH1 hS1 hl

theorem rl_mmax1 : Cond.static Lib.Math.max.name ∈ g_tbl := g_mem (by decide +kernel) rfl
theorem rl_mmax2 : Cond.initialized "java/lang/Math" ∈ g_tbl := g_mem (by decide +kernel) rfl
theorem rl_mmax3 : Cond.code Lib.Math.max.name Lib.Math.max.code 2 (some .int) ∈ g_tbl := g_mem (by decide +kernel) rfl
theorem R.mmax (hc : cx = (l, y, cc, nL, ret, d, mc, ms, n0, X, Q)) {idx : Nat} {x z : Int32} (hw : Cond.methodLink y.cls idx Lib.Math.max.name ∈ g_tbl) (hd1 : 1 ≤ d) (hcat : (st.map fun v => v.category).sum ≤ 8) (hm : kc ≤ mc ∧ ks ≤ ms) (hd : decode cc pc = .ok (.invokestatic idx, 3)) (k : R cx kc ks n σ (pc + 3) ls (.int (if x < z then z else x) :: st)) : R cx kc ks n σ pc ls (.int z :: .int x :: st) := by
  subst hc
  intro p e s m args below meth c dC dI dA E H locs la F hH hS hl
  refine va_mmax F.1 F.2.1 (F.2.2.2.1.trans hl.1.symm) F.2.2.2.2.1 (F.2.2.2.2.2.1 _ hw) (F.2.2.2.2.2.1 _ rl_mmax1) (F.2.2.2.2.2.1 _ rl_mmax2) (F.2.2.2.2.2.1 _ rl_mmax3) (show 1 ≤ d from hd1) ?_ hm.1 hm.2 hd (k p e s m args below meth c dC dI dA E H locs la F hH hS hl)
  rw [rl_cats]
  show _ + 13 ≤ 64 * d
  omega
theorem rl_mmin1 : Cond.static Lib.Math.min.name ∈ g_tbl := g_mem (by decide +kernel) rfl
theorem rl_mmin2 : Cond.initialized "java/lang/Math" ∈ g_tbl := g_mem (by decide +kernel) rfl
theorem rl_mmin3 : Cond.code Lib.Math.min.name Lib.Math.min.code 2 (some .int) ∈ g_tbl := g_mem (by decide +kernel) rfl
theorem R.mmin (hc : cx = (l, y, cc, nL, ret, d, mc, ms, n0, X, Q)) {idx : Nat} {x z : Int32} (hw : Cond.methodLink y.cls idx Lib.Math.min.name ∈ g_tbl) (hd1 : 1 ≤ d) (hcat : (st.map fun v => v.category).sum ≤ 8) (hm : kc ≤ mc ∧ ks ≤ ms) (hd : decode cc pc = .ok (.invokestatic idx, 3)) (k : R cx kc ks n σ (pc + 3) ls (.int (if z < x then z else x) :: st)) : R cx kc ks n σ pc ls (.int z :: .int x :: st) := by
  subst hc
  intro p e s m args below meth c dC dI dA E H locs la F hH hS hl
  refine va_mmin F.1 F.2.1 (F.2.2.2.1.trans hl.1.symm) F.2.2.2.2.1 (F.2.2.2.2.2.1 _ hw) (F.2.2.2.2.2.1 _ rl_mmin1) (F.2.2.2.2.2.1 _ rl_mmin2) (F.2.2.2.2.2.1 _ rl_mmin3) (show 1 ≤ d from hd1) ?_ hm.1 hm.2 hd (k p e s m args below meth c dC dI dA E H locs la F hH hS hl)
  rw [rl_cats]
  show _ + 13 ≤ 64 * d
  omega
end RC
