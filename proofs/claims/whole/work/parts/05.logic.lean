abbrev PE : Type := (Nat × vp_A) ⊕ (Nat × List Value)
abbrev Wd : Type := Nat → Option PE
abbrev EE : Type := Nat × (Nat → Nat)
def rl_ad (E : EE) (i : Nat) : Nat := if i < 1000000 then E.1 + i else E.2 (i - 1000000)
def rl_tv (E : EE) (v : Value) : Value := match v with
  | .ref i => .ref (rl_ad E i)
  | v => v
def rl_te (dA : Nat → ClassId) (E : EE) (c : PE) : va_E := match c with
  | .inl a => .inl (dA a.1, a.2)
  | .inr o => .inr (o.1, o.2.map (rl_tv E))
def rl_tw (dA : Nat → ClassId) (E : EE) (n : Nat) (σ : Wd) : va_W := (List.range n).map fun i => (rl_ad E i, rl_te dA E ((σ i).getD (.inr (0, []))))
def rl_up (σ : Wd) (i : Nat) (c : PE) : Wd := fun j => if j = i then some c else σ j
theorem rl_up_s {σ : Wd} {i : Nat} {c : PE} : rl_up σ i c i = some c := by simp [rl_up]
theorem rl_up_n {σ : Wd} {i j : Nat} {c : PE} (h : j ≠ i) : rl_up σ i c j = σ j := by simp [rl_up, h]
def rl_tys (dA : Nat → ClassId) : List (ClassId × FieldType) := [(dA 0, .int), (dA 1, .long), (dA 2, .char)]
theorem rl_cat (E : EE) (v : Value) : (rl_tv E v).category = v.category := by cases v <;> rfl
theorem rl_cats (E : EE) (st : List Value) : ((st.map (rl_tv E)).map fun v => v.category).sum = (st.map fun v => v.category).sum := by
  rw [List.map_map]
  congr 1
  exact List.map_congr_left (fun v _ => rl_cat E v)
theorem rl_tw_at {dA : Nat → ClassId} {E : EE} {n i : Nat} {σ : Wd} {c : PE} (h : σ i = some c) (hi : i < n) : (rl_tw dA E n σ)[i]? = some (rl_ad E i, rl_te dA E c) := by
  simp [rl_tw, h, hi]
theorem rl_tw_set {dA : Nat → ClassId} {E : EE} {n i : Nat} {σ : Wd} {c : PE} : (rl_tw dA E n σ).set i (rl_ad E i, rl_te dA E c) = rl_tw dA E n (rl_up σ i c) := by
  refine List.ext_getElem? fun j => ?_
  rw [List.getElem?_set]
  by_cases hj : i = j
  · subst hj
    by_cases hi : i < n
    · simp [rl_tw, rl_up, hi]
    · simp [rl_tw, hi]
  · rw [if_neg hj]
    by_cases hi : j < n
    · simp [rl_tw, rl_up, hi, Ne.symm hj]
    · simp [rl_tw, hi]
theorem rl_tw_push {dA : Nat → ClassId} {E : EE} {n : Nat} {σ : Wd} {c : PE} : rl_tw dA E (n + 1) (rl_up σ n c) = rl_tw dA E n σ ++ [(rl_ad E n, rl_te dA E c)] := by
  unfold rl_tw
  rw [List.range_succ, List.map_append]
  congr 1
  · refine List.map_congr_left (fun i hi => ?_)
    have := List.mem_range.mp hi
    rw [rl_up_n (by omega)]
  · simp [rl_up_s]
def rl_Hw (dC : Nat → ClassId) (dI : Nat → Nat → Nat) (dA : Nat → ClassId) (E : EE) (n : Nat) (σ : Wd) (H : Heap) : Prop :=
  n ≤ 1000000 ∧ (∀ i, (σ i).isSome = true ↔ i < n) ∧ va_P (dC, dI) vwCl (rl_tw dA E n σ) H
theorem rl_D {dA : Nat → ClassId} {E : EE} {n : Nat} {σ : Wd} (hn : n ≤ 1000000) : va_D (fun q : Nat => E.1 ≤ q) (rl_tw dA E n σ) := by
  have key : ∀ (i : Nat) (p : Nat × va_E), (rl_tw dA E n σ)[i]? = some p → i < n ∧ p.1 = E.1 + i := by
    intro i p h
    have hi : i < n := by
      have := (List.getElem?_eq_some_iff.mp h).1
      simpa [rl_tw] using this
    refine ⟨hi, ?_⟩
    simp [rl_tw, hi] at h
    rw [← h]
    simp [rl_ad, show i < 1000000 by omega]
  refine ⟨fun i j p q hi hj hpq => ?_, fun k q hk => ?_⟩
  · have a := key i p hi
    have b := key j q hj
    omega
  · have a := key k q hk
    show E.1 ≤ q.1
    omega
theorem rl_lt {dC : Nat → ClassId} {dI : Nat → Nat → Nat} {dA : Nat → ClassId} {E : EE} {n : Nat} {σ : Wd} {H : Heap} (h : rl_Hw dC dI dA E n σ H) {i : Nat} {c : PE} (hi : σ i = some c) : i < n := (h.2.1 i).mp (by rw [hi]; rfl)
def rl_nest : List (String × Nat × MethodName × String) := [(RX6, 9, yX4_init, RX6), (RX6, 18, yX0_init, RX6), (RX6, 38, yX5_init, RX6), (RX6, 45, yX3_init, RX6), (RX6, 52, yX1_init, RX6), (RX6, 59, yX2_init, RX6)]
/-- what lies outside the world: a static, the literal, the script -/
def rl_XE (X : Nat × (Nat → Int32)) (E : EE) (U : State) : Prop :=
  va_Z "java/lang/String" "COMPACT_STRINGS" "Z" (.int 1) (fun q => E.1 ≤ q) U U.heap ∧ vk_R "PuddleClaims$Tape" 63 "pskwg" (E.2 1) U ∧ vk_S 1 [5] [[112, 115, 107, 119, 103]] (fun _ => E.2 1) (fun _ => E.2 2) (fun q => E.1 ≤ q) U U.heap ∧ va_X (E.2 0) X.1 X.2 U U.heap ∧ E.2 0 < E.1 ∧ ∀ q ∈ rl_nest, va_Nw (.methodLinkNest q.1 q.2.1 q.2.2.1 q.2.2.2) U
abbrev Cx : Type := Launch × MethodName × ByteArray × Nat × Option FieldType × Nat × Nat × Nat × Nat × (Nat × (Nat → Int32)) × (Option Value → Nat → Wd → Prop)
def rl_rm (d mc ms : Nat) : Room := { frames := d, cells := mc, slots := ms, locals := 64 * d }
def rl_Qp (Q : Option Value → Nat → Wd → Prop) (dC : Nat → ClassId) (dI : Nat → Nat → Nat) (dA : Nat → ClassId) (E : EE) : Array Value → State → Outcome → State → Prop := fun _ st o t =>
  (∃ (v : Option Value) (n' : Nat) (σ' : Wd), o = .returned (v.map (rl_tv E)) ∧ Q v n' σ' ∧ rl_Hw dC dI dA E n' σ' t.heap) ∧ va_F (fun q => E.1 ≤ q) st t
def rl_Fx (cx : Cx) (p : Program) (s : State) (m : MethodId) (args : Array Value) (meth : Method) (c : Code) (dC : Nat → ClassId) (dI : Nat → Nat → Nat) (dA : Nat → ClassId) (E : EE) : Prop :=
  p.tables.exec = Jvm.exec ∧ c.code = cx.2.2.1 ∧ meth.sig.returnType = cx.2.2.2.2.1 ∧ c.maxLocals = cx.2.2.2.1 ∧ s.vm.findClass cx.2.1.cls = some m.cls ∧ (∀ w ∈ g_tbl, w.before args s = true) ∧ meth.locks = false ∧ va_K (dC, dI) vwCl (rl_tys dA) s ∧ rl_XE cx.2.2.2.2.2.2.2.2.2.1 E s ∧ E.1 ≤ s.heap.size ∧ meth.name = cx.2.1.name ∧ (cx.2.2.2.2.2.2.1 = 0 ∨ s.heap.size ≤ E.1 + cx.2.2.2.2.2.2.2.2.1)
def rl_tl (E : EE) : Nat → List (Option Value) → List (Nat × Value)
  | _, [] => []
  | i, none :: l => rl_tl E (i + 1) l
  | i, some v :: l => (i, rl_tv E v) :: rl_tl E (i + 1) l
/-- the judgement: from this frame, over this world, the method comes to its end with Q -/
def R (cx : Cx) (kc ks n : Nat) (σ : Wd) (pc : Nat) (ls : List (Option Value)) (st : List Value) : Prop :=
  ∀ (p : Program) (e : Env) (s : State) (m : MethodId) (args : Array Value) (below : List Frame) (meth : Method) (c : Code) (dC : Nat → ClassId) (dI : Nat → Nat → Nat) (dA : Nat → ClassId) (E : EE) (H : Heap) (locs : List Loc) (la : Array Slot),
    rl_Fx cx p s m args meth c dC dI dA E → rl_Hw dC dI dA E n σ H → va_S (fun q => E.1 ≤ q) s.heap H locs → lv_has la cx.2.2.2.1 (rl_tl E 0 ls) →
    W p cx.1 e (rl_rm cx.2.2.2.2.2.1 cx.2.2.2.2.2.2.1 cx.2.2.2.2.2.2.2.1) s m args below meth c H locs kc ks (MQ below (rl_Qp cx.2.2.2.2.2.2.2.2.2.2 dC dI dA E) args s cx.2.2.2.2.2.2.1 cx.2.2.2.2.2.2.2.1 (fun q => E.1 ≤ q)) (F0 m pc la (st.map (rl_tv E)))
def Con (l : Launch) (y : MethodName) (cc : ByteArray) (nL : Nat) (ret : Option FieldType) (d mc ms : Nat) (X : Nat × (Nat → Int32)) (n : Nat) (args : List Value) (σ : Wd) (Q : Option Value → Nat → Wd → Prop) : Prop :=
  ∀ (dC : Nat → ClassId) (dI : Nat → Nat → Nat) (dA : Nat → ClassId) (E : EE), Met l y (.code y cc nL ret :: g_tbl) (rl_rm d mc ms) (va_Pc (args.map (rl_tv E)) (fun U => rl_Hw dC dI dA E n σ U.heap ∧ va_K (dC, dI) vwCl (rl_tys dA) U ∧ rl_XE X E U ∧ E.1 ≤ U.heap.size ∧ (mc = 0 ∨ U.heap.size ≤ E.1 + n))) (rl_Qp Q dC dI dA E) mc ms (fun q => E.1 ≤ q)
theorem rl_tl_mem {E : EE} : ∀ (ls : List (Option Value)) (i : Nat) (q : Nat × Value), q ∈ rl_tl E i ls ↔ ∃ (j : Nat) (v : Value), ls[j]? = some (some v) ∧ q = (i + j, rl_tv E v) := by
  intro ls
  induction ls with
  | nil => intro i q; simp [rl_tl]
  | cons a ls ih =>
    intro i q
    cases a with
    | none =>
      rw [rl_tl, ih]
      constructor
      · rintro ⟨j, v, h1, h2⟩
        exact ⟨j + 1, v, by simpa using h1, by rw [h2]; congr 1; omega⟩
      · rintro ⟨j, v, h1, h2⟩
        cases j with
        | zero => simp at h1
        | succ j => exact ⟨j, v, by simpa using h1, by rw [h2]; congr 1; omega⟩
    | some x =>
      rw [rl_tl, List.mem_cons, ih]
      constructor
      · rintro (h | ⟨j, v, h1, h2⟩)
        · exact ⟨0, x, rfl, by rw [h]; rfl⟩
        · exact ⟨j + 1, v, by simpa using h1, by rw [h2]; congr 1; omega⟩
      · rintro ⟨j, v, h1, h2⟩
        cases j with
        | zero => simp at h1; subst h1; exact Or.inl h2
        | succ j => exact Or.inr ⟨j, v, by simpa using h1, by rw [h2]; congr 1; omega⟩
theorem rl_at {E : EE} {la : Array Slot} {nL : Nat} {ls : List (Option Value)} (h : lv_has la nL (rl_tl E 0 ls)) {k : Nat} {v : Value} (hk : ls[k]? = some (some v)) : la[k]? = some (.val (rl_tv E v)) :=
  h.2.2 (k, rl_tv E v) ((rl_tl_mem ls 0 _).mpr ⟨k, v, hk, by simp⟩)
/-- no value of two slots just below -/
def rl_ok1 (ls : List (Option Value)) (k : Nat) : Bool := match k with
  | 0 => true
  | k + 1 => match ls[k]? with
    | some (some v) => v.category == 1
    | _ => true
theorem rl_store {E : EE} {la : Array Slot} {nL : Nat} {ls : List (Option Value)} {k : Nat} {v : Value} {f : Nat × Value → Bool} (hf : ∀ q : Nat × Value, q.1 ≠ k → ¬ (q.1 + 1 = k ∧ q.2.category = 2) → f q = true) (ho : rl_ok1 ls k = true) (h : lv_has la nL ((k, rl_tv E v) :: (rl_tl E 0 ls).filter f)) : lv_has la nL (rl_tl E 0 (ls.set k (some v))) := by
  refine ⟨h.1, h.2.1, fun q hq => h.2.2 q ?_⟩
  obtain ⟨j, w, h1, h2⟩ := (rl_tl_mem _ 0 _).mp hq
  rw [List.getElem?_set] at h1
  by_cases hj : k = j
  · subst hj
    rw [if_pos rfl] at h1
    split at h1
    · cases h1
      rw [h2]
      simp
    · cases h1
  · rw [if_neg hj] at h1
    refine List.mem_cons_of_mem _ (List.mem_filter.mpr ⟨(rl_tl_mem _ 0 _).mpr ⟨j, w, h1, h2⟩, hf q ?_ ?_⟩)
    · rw [h2]; simp; omega
    · rw [h2]
      rintro ⟨a, b⟩
      simp at a
      rw [rl_cat] at b
      subst a
      simp [rl_ok1, h1] at ho
      omega
theorem rl_acN : Cond.native arraycopyName ∈ g_tbl := g_mem (by decide +kernel) rfl
theorem rl_acS : Cond.static arraycopyName ∈ g_tbl := g_mem (by decide +kernel) rfl
theorem rl_acI : Cond.initialized "java/lang/System" ∈ g_tbl := g_mem (by decide +kernel) rfl
section RL
variable {cx : Cx} {l : Launch} {y : MethodName} {cc : ByteArray} {nL : Nat} {ret : Option FieldType} {d mc ms n0 : Nat} {X : Nat × (Nat → Int32)} {Q : Option Value → Nat → Wd → Prop} {kc ks n : Nat} {σ : Wd} {pc : Nat} {ls : List (Option Value)} {st : List Value}
theorem R.at {pc' : Nat} (h : pc = pc') (k : R cx kc ks n σ pc' ls st) : R cx kc ks n σ pc ls st := h ▸ k

theorem R.iconst (hc : cx = (l, y, cc, nL, ret, d, mc, ms, n0, X, Q)) {j : Int} {v : Int32} (hv : Int32.ofInt j = v) (hd : decode cc pc = .ok (.iconst j, 1)) (k : R cx kc ks n σ (pc + 1) ls (.int v :: st)) : R cx kc ks n σ pc ls (st) := by
  subst hc
  intro p e s m args below meth c dC dI dA E H locs la F hH hS hl
  exact lv_iconst F.1 F.2.1 hd hv (k p e s m args below meth c dC dI dA E H locs la F hH hS hl)
theorem R.bipush (hc : cx = (l, y, cc, nL, ret, d, mc, ms, n0, X, Q)) {j : Int} {v : Int32} (hv : (Int8.ofInt j).toInt32 = v) (hd : decode cc pc = .ok (.bipush j, 2)) (k : R cx kc ks n σ (pc + 2) ls (.int v :: st)) : R cx kc ks n σ pc ls (st) := by
  subst hc
  intro p e s m args below meth c dC dI dA E H locs la F hH hS hl
  exact lv_bipush F.1 F.2.1 hd hv (k p e s m args below meth c dC dI dA E H locs la F hH hS hl)
theorem R.sipush (hc : cx = (l, y, cc, nL, ret, d, mc, ms, n0, X, Q)) {j : Int} {v : Int32} (hv : (Int16.ofInt j).toInt32 = v) (hd : decode cc pc = .ok (.sipush j, 3)) (k : R cx kc ks n σ (pc + 3) ls (.int v :: st)) : R cx kc ks n σ pc ls (st) := by
  subst hc
  intro p e s m args below meth c dC dI dA E H locs la F hH hS hl
  exact lv_sipush F.1 F.2.1 hd hv (k p e s m args below meth c dC dI dA E H locs la F hH hS hl)
theorem R.lconst (hc : cx = (l, y, cc, nL, ret, d, mc, ms, n0, X, Q)) {j : Fin 2} {v : Int64} (hv : Int64.ofNat (j : Nat) = v) (hd : decode cc pc = .ok (.lconst j, 1)) (k : R cx kc ks n σ (pc + 1) ls (.long v :: st)) : R cx kc ks n σ pc ls (st) := by
  subst hc
  intro p e s m args below meth c dC dI dA E H locs la F hH hS hl
  exact lv_lconst F.1 F.2.1 hd hv (k p e s m args below meth c dC dI dA E H locs la F hH hS hl)
theorem R.ldc (hc : cx = (l, y, cc, nL, ret, d, mc, ms, n0, X, Q)) {idx : Nat} {v : Int32} (hw : Cond.constant y.cls idx v ∈ g_tbl) (hd : decode cc pc = .ok (.ldc idx, 2)) (k : R cx kc ks n σ (pc + 2) ls (.int v :: st)) : R cx kc ks n σ pc ls (st) := by
  subst hc
  intro p e s m args below meth c dC dI dA E H locs la F hH hS hl
  exact lv_ldc F.1 F.2.1 F.2.2.2.2.1 (F.2.2.2.2.2.1 _ hw) hd (k p e s m args below meth c dC dI dA E H locs la F hH hS hl)
theorem R.ldcw (hc : cx = (l, y, cc, nL, ret, d, mc, ms, n0, X, Q)) {idx : Nat} {v : Int32} (hw : Cond.constant y.cls idx v ∈ g_tbl) (hd : decode cc pc = .ok (.ldc_w idx, 3)) (k : R cx kc ks n σ (pc + 3) ls (.int v :: st)) : R cx kc ks n σ pc ls (st) := by
  subst hc
  intro p e s m args below meth c dC dI dA E H locs la F hH hS hl
  exact lv_ldcw F.1 F.2.1 F.2.2.2.2.1 (F.2.2.2.2.2.1 _ hw) hd (k p e s m args below meth c dC dI dA E H locs la F hH hS hl)
theorem R.ldc2 (hc : cx = (l, y, cc, nL, ret, d, mc, ms, n0, X, Q)) {idx : Nat} {v : Int64} (hw : Cond.constantLong y.cls idx v ∈ g_tbl) (hd : decode cc pc = .ok (.ldc2_w idx, 3)) (k : R cx kc ks n σ (pc + 3) ls (.long v :: st)) : R cx kc ks n σ pc ls (st) := by
  subst hc
  intro p e s m args below meth c dC dI dA E H locs la F hH hS hl
  exact lv_ldc2 F.1 F.2.1 F.2.2.2.2.1 (F.2.2.2.2.2.1 _ hw) hd (k p e s m args below meth c dC dI dA E H locs la F hH hS hl)
theorem R.iload_n (hc : cx = (l, y, cc, nL, ret, d, mc, ms, n0, X, Q)) {j : Fin 4} {i : Nat} {x : Int32} (hi : (j : Nat) = i) (hk : ls[i]? = some (some (.int x))) (hd : decode cc pc = .ok (.iload_n j, 1)) (k : R cx kc ks n σ (pc + 1) ls (.int x :: st)) : R cx kc ks n σ pc ls (st) := by
  subst hc
  intro p e s m args below meth c dC dI dA E H locs la F hH hS hl
  exact lv_iload_n F.1 F.2.1 hd hi (rl_at hl hk) (k p e s m args below meth c dC dI dA E H locs la F hH hS hl)
theorem R.iload (hc : cx = (l, y, cc, nL, ret, d, mc, ms, n0, X, Q)) {i : Nat} {x : Int32} (hk : ls[i]? = some (some (.int x))) (hd : decode cc pc = .ok (.iload i, 2)) (k : R cx kc ks n σ (pc + 2) ls (.int x :: st)) : R cx kc ks n σ pc ls (st) := by
  subst hc
  intro p e s m args below meth c dC dI dA E H locs la F hH hS hl
  exact lv_iload F.1 F.2.1 hd (rl_at hl hk) (k p e s m args below meth c dC dI dA E H locs la F hH hS hl)
theorem R.lload_n (hc : cx = (l, y, cc, nL, ret, d, mc, ms, n0, X, Q)) {j : Fin 4} {i : Nat} {x : Int64} (hi : (j : Nat) = i) (hk : ls[i]? = some (some (.long x))) (hd : decode cc pc = .ok (.lload_n j, 1)) (k : R cx kc ks n σ (pc + 1) ls (.long x :: st)) : R cx kc ks n σ pc ls (st) := by
  subst hc
  intro p e s m args below meth c dC dI dA E H locs la F hH hS hl
  exact lv_lload_n F.1 F.2.1 hd hi (rl_at hl hk) (k p e s m args below meth c dC dI dA E H locs la F hH hS hl)
theorem R.lload (hc : cx = (l, y, cc, nL, ret, d, mc, ms, n0, X, Q)) {i : Nat} {x : Int64} (hk : ls[i]? = some (some (.long x))) (hd : decode cc pc = .ok (.lload i, 2)) (k : R cx kc ks n σ (pc + 2) ls (.long x :: st)) : R cx kc ks n σ pc ls (st) := by
  subst hc
  intro p e s m args below meth c dC dI dA E H locs la F hH hS hl
  exact lv_lload F.1 F.2.1 hd (rl_at hl hk) (k p e s m args below meth c dC dI dA E H locs la F hH hS hl)
theorem R.aload_n (hc : cx = (l, y, cc, nL, ret, d, mc, ms, n0, X, Q)) {j : Fin 4} {i : Nat} {x : Nat} (hi : (j : Nat) = i) (hk : ls[i]? = some (some (.ref x))) (hd : decode cc pc = .ok (.aload_n j, 1)) (k : R cx kc ks n σ (pc + 1) ls (.ref x :: st)) : R cx kc ks n σ pc ls (st) := by
  subst hc
  intro p e s m args below meth c dC dI dA E H locs la F hH hS hl
  exact lv_aload_n F.1 F.2.1 hd hi (rl_at hl hk) (k p e s m args below meth c dC dI dA E H locs la F hH hS hl)
theorem R.aload (hc : cx = (l, y, cc, nL, ret, d, mc, ms, n0, X, Q)) {i : Nat} {x : Nat} (hk : ls[i]? = some (some (.ref x))) (hd : decode cc pc = .ok (.aload i, 2)) (k : R cx kc ks n σ (pc + 2) ls (.ref x :: st)) : R cx kc ks n σ pc ls (st) := by
  subst hc
  intro p e s m args below meth c dC dI dA E H locs la F hH hS hl
  exact lv_aload F.1 F.2.1 hd (rl_at hl hk) (k p e s m args below meth c dC dI dA E H locs la F hH hS hl)
theorem R.iadd (hc : cx = (l, y, cc, nL, ret, d, mc, ms, n0, X, Q)) {x z : Int32} (hd : decode cc pc = .ok (.iadd, 1)) (k : R cx kc ks n σ (pc + 1) ls (.int (x + z) :: st)) : R cx kc ks n σ pc ls (.int z :: .int x :: st) := by
  subst hc
  intro p e s m args below meth c dC dI dA E H locs la F hH hS hl
  exact lv_iadd F.1 F.2.1 hd (k p e s m args below meth c dC dI dA E H locs la F hH hS hl)
theorem R.isub (hc : cx = (l, y, cc, nL, ret, d, mc, ms, n0, X, Q)) {x z : Int32} (hd : decode cc pc = .ok (.isub, 1)) (k : R cx kc ks n σ (pc + 1) ls (.int (x - z) :: st)) : R cx kc ks n σ pc ls (.int z :: .int x :: st) := by
  subst hc
  intro p e s m args below meth c dC dI dA E H locs la F hH hS hl
  exact lv_isub F.1 F.2.1 hd (k p e s m args below meth c dC dI dA E H locs la F hH hS hl)
theorem R.imul (hc : cx = (l, y, cc, nL, ret, d, mc, ms, n0, X, Q)) {x z : Int32} (hd : decode cc pc = .ok (.imul, 1)) (k : R cx kc ks n σ (pc + 1) ls (.int (x * z) :: st)) : R cx kc ks n σ pc ls (.int z :: .int x :: st) := by
  subst hc
  intro p e s m args below meth c dC dI dA E H locs la F hH hS hl
  exact lv_imul F.1 F.2.1 hd (k p e s m args below meth c dC dI dA E H locs la F hH hS hl)
theorem R.iand (hc : cx = (l, y, cc, nL, ret, d, mc, ms, n0, X, Q)) {x z : Int32} (hd : decode cc pc = .ok (.iand, 1)) (k : R cx kc ks n σ (pc + 1) ls (.int (x &&& z) :: st)) : R cx kc ks n σ pc ls (.int z :: .int x :: st) := by
  subst hc
  intro p e s m args below meth c dC dI dA E H locs la F hH hS hl
  exact lv_iand F.1 F.2.1 hd (k p e s m args below meth c dC dI dA E H locs la F hH hS hl)
theorem R.ior (hc : cx = (l, y, cc, nL, ret, d, mc, ms, n0, X, Q)) {x z : Int32} (hd : decode cc pc = .ok (.ior, 1)) (k : R cx kc ks n σ (pc + 1) ls (.int (x ||| z) :: st)) : R cx kc ks n σ pc ls (.int z :: .int x :: st) := by
  subst hc
  intro p e s m args below meth c dC dI dA E H locs la F hH hS hl
  exact lv_ior F.1 F.2.1 hd (k p e s m args below meth c dC dI dA E H locs la F hH hS hl)
theorem R.ixor (hc : cx = (l, y, cc, nL, ret, d, mc, ms, n0, X, Q)) {x z : Int32} (hd : decode cc pc = .ok (.ixor, 1)) (k : R cx kc ks n σ (pc + 1) ls (.int (x ^^^ z) :: st)) : R cx kc ks n σ pc ls (.int z :: .int x :: st) := by
  subst hc
  intro p e s m args below meth c dC dI dA E H locs la F hH hS hl
  exact lv_ixor F.1 F.2.1 hd (k p e s m args below meth c dC dI dA E H locs la F hH hS hl)
theorem R.ishl (hc : cx = (l, y, cc, nL, ret, d, mc, ms, n0, X, Q)) {x z : Int32} (hd : decode cc pc = .ok (.ishl, 1)) (k : R cx kc ks n σ (pc + 1) ls (.int (x <<< (z &&& 31)) :: st)) : R cx kc ks n σ pc ls (.int z :: .int x :: st) := by
  subst hc
  intro p e s m args below meth c dC dI dA E H locs la F hH hS hl
  exact lv_ishl F.1 F.2.1 hd (k p e s m args below meth c dC dI dA E H locs la F hH hS hl)
theorem R.ishr (hc : cx = (l, y, cc, nL, ret, d, mc, ms, n0, X, Q)) {x z : Int32} (hd : decode cc pc = .ok (.ishr, 1)) (k : R cx kc ks n σ (pc + 1) ls (.int (x >>> (z &&& 31)) :: st)) : R cx kc ks n σ pc ls (.int z :: .int x :: st) := by
  subst hc
  intro p e s m args below meth c dC dI dA E H locs la F hH hS hl
  exact lv_ishr F.1 F.2.1 hd (k p e s m args below meth c dC dI dA E H locs la F hH hS hl)
theorem R.idiv (hc : cx = (l, y, cc, nL, ret, d, mc, ms, n0, X, Q)) {x z : Int32} (hne : ¬ z = 0) (hd : decode cc pc = .ok (.idiv, 1)) (k : R cx kc ks n σ (pc + 1) ls (.int (x / z) :: st)) : R cx kc ks n σ pc ls (.int z :: .int x :: st) := by
  subst hc
  intro p e s m args below meth c dC dI dA E H locs la F hH hS hl
  exact lv_idiv F.1 F.2.1 hd hne (k p e s m args below meth c dC dI dA E H locs la F hH hS hl)
theorem R.irem (hc : cx = (l, y, cc, nL, ret, d, mc, ms, n0, X, Q)) {x z : Int32} (hne : ¬ z = 0) (hd : decode cc pc = .ok (.irem, 1)) (k : R cx kc ks n σ (pc + 1) ls (.int (x - x / z * z) :: st)) : R cx kc ks n σ pc ls (.int z :: .int x :: st) := by
  subst hc
  intro p e s m args below meth c dC dI dA E H locs la F hH hS hl
  exact lv_irem F.1 F.2.1 hd hne (k p e s m args below meth c dC dI dA E H locs la F hH hS hl)
theorem R.iushr (hc : cx = (l, y, cc, nL, ret, d, mc, ms, n0, X, Q)) {x z : Int32} (hd : decode cc pc = .ok (.iushr, 1)) (k : R cx kc ks n σ (pc + 1) ls (.int (x.toUInt32 >>> (z.toUInt32 &&& Int32.toUInt32 31)).toInt32 :: st)) : R cx kc ks n σ pc ls (.int z :: .int x :: st) := by
  subst hc
  intro p e s m args below meth c dC dI dA E H locs la F hH hS hl
  exact lv_iushr F.1 F.2.1 hd rfl (k p e s m args below meth c dC dI dA E H locs la F hH hS hl)
theorem R.ladd (hc : cx = (l, y, cc, nL, ret, d, mc, ms, n0, X, Q)) {x z : Int64} (hd : decode cc pc = .ok (.ladd, 1)) (k : R cx kc ks n σ (pc + 1) ls (.long (x + z) :: st)) : R cx kc ks n σ pc ls (.long z :: .long x :: st) := by
  subst hc
  intro p e s m args below meth c dC dI dA E H locs la F hH hS hl
  exact lv_ladd F.1 F.2.1 hd (k p e s m args below meth c dC dI dA E H locs la F hH hS hl)
theorem R.lmul (hc : cx = (l, y, cc, nL, ret, d, mc, ms, n0, X, Q)) {x z : Int64} (hd : decode cc pc = .ok (.lmul, 1)) (k : R cx kc ks n σ (pc + 1) ls (.long (x * z) :: st)) : R cx kc ks n σ pc ls (.long z :: .long x :: st) := by
  subst hc
  intro p e s m args below meth c dC dI dA E H locs la F hH hS hl
  exact lv_lmul F.1 F.2.1 hd (k p e s m args below meth c dC dI dA E H locs la F hH hS hl)
theorem R.land (hc : cx = (l, y, cc, nL, ret, d, mc, ms, n0, X, Q)) {x z : Int64} (hd : decode cc pc = .ok (.land, 1)) (k : R cx kc ks n σ (pc + 1) ls (.long (x &&& z) :: st)) : R cx kc ks n σ pc ls (.long z :: .long x :: st) := by
  subst hc
  intro p e s m args below meth c dC dI dA E H locs la F hH hS hl
  exact lv_land F.1 F.2.1 hd (k p e s m args below meth c dC dI dA E H locs la F hH hS hl)
theorem R.lor (hc : cx = (l, y, cc, nL, ret, d, mc, ms, n0, X, Q)) {x z : Int64} (hd : decode cc pc = .ok (.lor, 1)) (k : R cx kc ks n σ (pc + 1) ls (.long (x ||| z) :: st)) : R cx kc ks n σ pc ls (.long z :: .long x :: st) := by
  subst hc
  intro p e s m args below meth c dC dI dA E H locs la F hH hS hl
  exact lv_lor F.1 F.2.1 hd (k p e s m args below meth c dC dI dA E H locs la F hH hS hl)
theorem R.lshl (hc : cx = (l, y, cc, nL, ret, d, mc, ms, n0, X, Q)) {x : Int64} {z : Int32} (hd : decode cc pc = .ok (.lshl, 1)) (k : R cx kc ks n σ (pc + 1) ls (.long (x <<< (z.toInt64 &&& 63)) :: st)) : R cx kc ks n σ pc ls (.int z :: .long x :: st) := by
  subst hc
  intro p e s m args below meth c dC dI dA E H locs la F hH hS hl
  exact lv_lshl F.1 F.2.1 hd rfl (k p e s m args below meth c dC dI dA E H locs la F hH hS hl)
theorem R.lcmp (hc : cx = (l, y, cc, nL, ret, d, mc, ms, n0, X, Q)) {x z : Int64} (hd : decode cc pc = .ok (.lcmp, 1)) (k : R cx kc ks n σ (pc + 1) ls (.int (lg_cmp x z) :: st)) : R cx kc ks n σ pc ls (.long z :: .long x :: st) := by
  subst hc
  intro p e s m args below meth c dC dI dA E H locs la F hH hS hl
  exact W.lcmp F.1 F.2.1 hd (k p e s m args below meth c dC dI dA E H locs la F hH hS hl)
theorem R.i2l (hc : cx = (l, y, cc, nL, ret, d, mc, ms, n0, X, Q)) {x : Int32} (hd : decode cc pc = .ok (.i2l, 1)) (k : R cx kc ks n σ (pc + 1) ls (.long x.toInt64 :: st)) : R cx kc ks n σ pc ls (.int x :: st) := by
  subst hc
  intro p e s m args below meth c dC dI dA E H locs la F hH hS hl
  exact lv_i2l F.1 F.2.1 hd rfl (k p e s m args below meth c dC dI dA E H locs la F hH hS hl)
theorem R.l2i (hc : cx = (l, y, cc, nL, ret, d, mc, ms, n0, X, Q)) {x : Int64} (hd : decode cc pc = .ok (.l2i, 1)) (k : R cx kc ks n σ (pc + 1) ls (.int x.toInt32 :: st)) : R cx kc ks n σ pc ls (.long x :: st) := by
  subst hc
  intro p e s m args below meth c dC dI dA E H locs la F hH hS hl
  exact lv_l2i F.1 F.2.1 hd rfl (k p e s m args below meth c dC dI dA E H locs la F hH hS hl)
theorem R.i2b (hc : cx = (l, y, cc, nL, ret, d, mc, ms, n0, X, Q)) {x : Int32} (hd : decode cc pc = .ok (.i2b, 1)) (k : R cx kc ks n σ (pc + 1) ls (.int x.toInt8.toInt32 :: st)) : R cx kc ks n σ pc ls (.int x :: st) := by
  subst hc
  intro p e s m args below meth c dC dI dA E H locs la F hH hS hl
  exact lv_i2b F.1 F.2.1 hd rfl (k p e s m args below meth c dC dI dA E H locs la F hH hS hl)
theorem R.i2s (hc : cx = (l, y, cc, nL, ret, d, mc, ms, n0, X, Q)) {x : Int32} (hd : decode cc pc = .ok (.i2s, 1)) (k : R cx kc ks n σ (pc + 1) ls (.int x.toInt16.toInt32 :: st)) : R cx kc ks n σ pc ls (.int x :: st) := by
  subst hc
  intro p e s m args below meth c dC dI dA E H locs la F hH hS hl
  exact lv_i2s F.1 F.2.1 hd rfl (k p e s m args below meth c dC dI dA E H locs la F hH hS hl)
theorem R.i2c (hc : cx = (l, y, cc, nL, ret, d, mc, ms, n0, X, Q)) {x : Int32} (hd : decode cc pc = .ok (.i2c, 1)) (k : R cx kc ks n σ (pc + 1) ls (.int (x.toUInt32 % 65536).toInt32 :: st)) : R cx kc ks n σ pc ls (.int x :: st) := by
  subst hc
  intro p e s m args below meth c dC dI dA E H locs la F hH hS hl
  exact lv_i2c F.1 F.2.1 hd rfl (k p e s m args below meth c dC dI dA E H locs la F hH hS hl)
theorem R.dup (hc : cx = (l, y, cc, nL, ret, d, mc, ms, n0, X, Q)) {v : Value} (hv : v.category = 1) (hd : decode cc pc = .ok (.dup, 1)) (k : R cx kc ks n σ (pc + 1) ls (v :: v :: st)) : R cx kc ks n σ pc ls (v :: st) := by
  subst hc
  intro p e s m args below meth c dC dI dA E H locs la F hH hS hl
  exact lv_dup F.1 F.2.1 hd ((rl_cat E v).trans hv) (k p e s m args below meth c dC dI dA E H locs la F hH hS hl)
theorem R.pop (hc : cx = (l, y, cc, nL, ret, d, mc, ms, n0, X, Q)) {v : Value} (hv : v.category = 1) (hd : decode cc pc = .ok (.pop, 1)) (k : R cx kc ks n σ (pc + 1) ls (st)) : R cx kc ks n σ pc ls (v :: st) := by
  subst hc
  intro p e s m args below meth c dC dI dA E H locs la F hH hS hl
  exact lv_pop F.1 F.2.1 hd ((rl_cat E v).trans hv) (k p e s m args below meth c dC dI dA E H locs la F hH hS hl)
theorem R.dup2 (hc : cx = (l, y, cc, nL, ret, d, mc, ms, n0, X, Q)) {v u : Value} (hv : v.category = 1) (hu : u.category = 1) (hd : decode cc pc = .ok (.dup2, 1)) (k : R cx kc ks n σ (pc + 1) ls (v :: u :: v :: u :: st)) : R cx kc ks n σ pc ls (v :: u :: st) := by
  subst hc
  intro p e s m args below meth c dC dI dA E H locs la F hH hS hl
  exact lv_dup2_11 F.1 F.2.1 hd ((rl_cat E v).trans hv) ((rl_cat E u).trans hu) (k p e s m args below meth c dC dI dA E H locs la F hH hS hl)
theorem R.if_eq (hc : cx = (l, y, cc, nL, ret, d, mc, ms, n0, X, Q)) {x : Int32} {off : Int} {tgt : Nat} (hd : decode cc pc = .ok (.ifCond .eq off, 3)) (ht : (pc : Int) + off = (tgt : Int)) (kt : x = 0 → R cx kc ks n σ tgt ls st) (kf : ¬ x = 0 → R cx kc ks n σ (pc + 3) ls st) : R cx kc ks n σ pc ls (.int x :: st) := by
  subst hc
  intro p e s m args below meth c dC dI dA E H locs la F hH hS hl
  exact lv_if_eq F.1 F.2.1 hd ht (fun q => kt q p e s m args below meth c dC dI dA E H locs la F hH hS hl) (fun q => kf q p e s m args below meth c dC dI dA E H locs la F hH hS hl)
theorem R.icmp_eq (hc : cx = (l, y, cc, nL, ret, d, mc, ms, n0, X, Q)) {x z : Int32} {off : Int} {tgt : Nat} (hd : decode cc pc = .ok (.if_icmp .eq off, 3)) (ht : (pc : Int) + off = (tgt : Int)) (kt : x = z → R cx kc ks n σ tgt ls st) (kf : ¬ x = z → R cx kc ks n σ (pc + 3) ls st) : R cx kc ks n σ pc ls (.int z :: .int x :: st) := by
  subst hc
  intro p e s m args below meth c dC dI dA E H locs la F hH hS hl
  exact lv_icmp_eq F.1 F.2.1 hd ht (fun q => kt q p e s m args below meth c dC dI dA E H locs la F hH hS hl) (fun q => kf q p e s m args below meth c dC dI dA E H locs la F hH hS hl)
theorem R.if_ne (hc : cx = (l, y, cc, nL, ret, d, mc, ms, n0, X, Q)) {x : Int32} {off : Int} {tgt : Nat} (hd : decode cc pc = .ok (.ifCond .ne off, 3)) (ht : (pc : Int) + off = (tgt : Int)) (kt : ¬ x = 0 → R cx kc ks n σ tgt ls st) (kf : x = 0 → R cx kc ks n σ (pc + 3) ls st) : R cx kc ks n σ pc ls (.int x :: st) := by
  subst hc
  intro p e s m args below meth c dC dI dA E H locs la F hH hS hl
  exact lv_if_ne F.1 F.2.1 hd ht (fun q => kt q p e s m args below meth c dC dI dA E H locs la F hH hS hl) (fun q => kf q p e s m args below meth c dC dI dA E H locs la F hH hS hl)
theorem R.icmp_ne (hc : cx = (l, y, cc, nL, ret, d, mc, ms, n0, X, Q)) {x z : Int32} {off : Int} {tgt : Nat} (hd : decode cc pc = .ok (.if_icmp .ne off, 3)) (ht : (pc : Int) + off = (tgt : Int)) (kt : ¬ x = z → R cx kc ks n σ tgt ls st) (kf : x = z → R cx kc ks n σ (pc + 3) ls st) : R cx kc ks n σ pc ls (.int z :: .int x :: st) := by
  subst hc
  intro p e s m args below meth c dC dI dA E H locs la F hH hS hl
  exact lv_icmp_ne F.1 F.2.1 hd ht (fun q => kt q p e s m args below meth c dC dI dA E H locs la F hH hS hl) (fun q => kf q p e s m args below meth c dC dI dA E H locs la F hH hS hl)
theorem R.if_lt (hc : cx = (l, y, cc, nL, ret, d, mc, ms, n0, X, Q)) {x : Int32} {off : Int} {tgt : Nat} (hd : decode cc pc = .ok (.ifCond .lt off, 3)) (ht : (pc : Int) + off = (tgt : Int)) (kt : x < 0 → R cx kc ks n σ tgt ls st) (kf : ¬ x < 0 → R cx kc ks n σ (pc + 3) ls st) : R cx kc ks n σ pc ls (.int x :: st) := by
  subst hc
  intro p e s m args below meth c dC dI dA E H locs la F hH hS hl
  exact lv_if_lt F.1 F.2.1 hd ht (fun q => kt q p e s m args below meth c dC dI dA E H locs la F hH hS hl) (fun q => kf q p e s m args below meth c dC dI dA E H locs la F hH hS hl)
theorem R.icmp_lt (hc : cx = (l, y, cc, nL, ret, d, mc, ms, n0, X, Q)) {x z : Int32} {off : Int} {tgt : Nat} (hd : decode cc pc = .ok (.if_icmp .lt off, 3)) (ht : (pc : Int) + off = (tgt : Int)) (kt : x < z → R cx kc ks n σ tgt ls st) (kf : ¬ x < z → R cx kc ks n σ (pc + 3) ls st) : R cx kc ks n σ pc ls (.int z :: .int x :: st) := by
  subst hc
  intro p e s m args below meth c dC dI dA E H locs la F hH hS hl
  exact lv_icmp_lt F.1 F.2.1 hd ht (fun q => kt q p e s m args below meth c dC dI dA E H locs la F hH hS hl) (fun q => kf q p e s m args below meth c dC dI dA E H locs la F hH hS hl)
theorem R.if_ge (hc : cx = (l, y, cc, nL, ret, d, mc, ms, n0, X, Q)) {x : Int32} {off : Int} {tgt : Nat} (hd : decode cc pc = .ok (.ifCond .ge off, 3)) (ht : (pc : Int) + off = (tgt : Int)) (kt : 0 ≤ x → R cx kc ks n σ tgt ls st) (kf : ¬ 0 ≤ x → R cx kc ks n σ (pc + 3) ls st) : R cx kc ks n σ pc ls (.int x :: st) := by
  subst hc
  intro p e s m args below meth c dC dI dA E H locs la F hH hS hl
  exact lv_if_ge F.1 F.2.1 hd ht (fun q => kt q p e s m args below meth c dC dI dA E H locs la F hH hS hl) (fun q => kf q p e s m args below meth c dC dI dA E H locs la F hH hS hl)
theorem R.icmp_ge (hc : cx = (l, y, cc, nL, ret, d, mc, ms, n0, X, Q)) {x z : Int32} {off : Int} {tgt : Nat} (hd : decode cc pc = .ok (.if_icmp .ge off, 3)) (ht : (pc : Int) + off = (tgt : Int)) (kt : z ≤ x → R cx kc ks n σ tgt ls st) (kf : ¬ z ≤ x → R cx kc ks n σ (pc + 3) ls st) : R cx kc ks n σ pc ls (.int z :: .int x :: st) := by
  subst hc
  intro p e s m args below meth c dC dI dA E H locs la F hH hS hl
  exact lv_icmp_ge F.1 F.2.1 hd ht (fun q => kt q p e s m args below meth c dC dI dA E H locs la F hH hS hl) (fun q => kf q p e s m args below meth c dC dI dA E H locs la F hH hS hl)
theorem R.if_gt (hc : cx = (l, y, cc, nL, ret, d, mc, ms, n0, X, Q)) {x : Int32} {off : Int} {tgt : Nat} (hd : decode cc pc = .ok (.ifCond .gt off, 3)) (ht : (pc : Int) + off = (tgt : Int)) (kt : 0 < x → R cx kc ks n σ tgt ls st) (kf : ¬ 0 < x → R cx kc ks n σ (pc + 3) ls st) : R cx kc ks n σ pc ls (.int x :: st) := by
  subst hc
  intro p e s m args below meth c dC dI dA E H locs la F hH hS hl
  exact lv_if_gt F.1 F.2.1 hd ht (fun q => kt q p e s m args below meth c dC dI dA E H locs la F hH hS hl) (fun q => kf q p e s m args below meth c dC dI dA E H locs la F hH hS hl)
theorem R.icmp_gt (hc : cx = (l, y, cc, nL, ret, d, mc, ms, n0, X, Q)) {x z : Int32} {off : Int} {tgt : Nat} (hd : decode cc pc = .ok (.if_icmp .gt off, 3)) (ht : (pc : Int) + off = (tgt : Int)) (kt : z < x → R cx kc ks n σ tgt ls st) (kf : ¬ z < x → R cx kc ks n σ (pc + 3) ls st) : R cx kc ks n σ pc ls (.int z :: .int x :: st) := by
  subst hc
  intro p e s m args below meth c dC dI dA E H locs la F hH hS hl
  exact lv_icmp_gt F.1 F.2.1 hd ht (fun q => kt q p e s m args below meth c dC dI dA E H locs la F hH hS hl) (fun q => kf q p e s m args below meth c dC dI dA E H locs la F hH hS hl)
theorem R.if_le (hc : cx = (l, y, cc, nL, ret, d, mc, ms, n0, X, Q)) {x : Int32} {off : Int} {tgt : Nat} (hd : decode cc pc = .ok (.ifCond .le off, 3)) (ht : (pc : Int) + off = (tgt : Int)) (kt : x ≤ 0 → R cx kc ks n σ tgt ls st) (kf : ¬ x ≤ 0 → R cx kc ks n σ (pc + 3) ls st) : R cx kc ks n σ pc ls (.int x :: st) := by
  subst hc
  intro p e s m args below meth c dC dI dA E H locs la F hH hS hl
  exact lv_if_le F.1 F.2.1 hd ht (fun q => kt q p e s m args below meth c dC dI dA E H locs la F hH hS hl) (fun q => kf q p e s m args below meth c dC dI dA E H locs la F hH hS hl)
theorem R.icmp_le (hc : cx = (l, y, cc, nL, ret, d, mc, ms, n0, X, Q)) {x z : Int32} {off : Int} {tgt : Nat} (hd : decode cc pc = .ok (.if_icmp .le off, 3)) (ht : (pc : Int) + off = (tgt : Int)) (kt : x ≤ z → R cx kc ks n σ tgt ls st) (kf : ¬ x ≤ z → R cx kc ks n σ (pc + 3) ls st) : R cx kc ks n σ pc ls (.int z :: .int x :: st) := by
  subst hc
  intro p e s m args below meth c dC dI dA E H locs la F hH hS hl
  exact lv_icmp_le F.1 F.2.1 hd ht (fun q => kt q p e s m args below meth c dC dI dA E H locs la F hH hS hl) (fun q => kf q p e s m args below meth c dC dI dA E H locs la F hH hS hl)
theorem R.goto (hc : cx = (l, y, cc, nL, ret, d, mc, ms, n0, X, Q)) {off : Int} {tgt : Nat} (hd : decode cc pc = .ok (.goto off, 3)) (ht : (pc : Int) + off = (tgt : Int)) (k : R cx kc ks n σ tgt ls st) : R cx kc ks n σ pc ls st := by
  subst hc
  intro p e s m args below meth c dC dI dA E H locs la F hH hS hl
  exact lv_goto F.1 F.2.1 hd ht (k p e s m args below meth c dC dI dA E H locs la F hH hS hl)
theorem R.tabIn (hc : cx = (l, y, cc, nL, ret, d, mc, ms, n0, X, Q)) {dflt lo hi : Int} {offs : Array Int} {len : Nat} {x : Int32} {off : Int} {tgt : Nat} (hd : decode cc pc = .ok (.tableswitch dflt lo hi offs, len)) (h1 : ¬ x.toInt < lo) (h2 : ¬ hi < x.toInt) (ho : offs[(x.toInt - lo).toNat]? = some off) (ht : (pc : Int) + off = (tgt : Int)) (k : R cx kc ks n σ tgt ls st) : R cx kc ks n σ pc ls (.int x :: st) := by
  subst hc
  intro p e s m args below meth c dC dI dA E H locs la F hH hS hl
  exact lv_tableIn F.1 F.2.1 hd h1 h2 ho ht (k p e s m args below meth c dC dI dA E H locs la F hH hS hl)
theorem R.tabOut (hc : cx = (l, y, cc, nL, ret, d, mc, ms, n0, X, Q)) {dflt lo hi : Int} {offs : Array Int} {len : Nat} {x : Int32} {tgt : Nat} (hd : decode cc pc = .ok (.tableswitch dflt lo hi offs, len)) (h : x.toInt < lo ∨ hi < x.toInt) (ht : (pc : Int) + dflt = (tgt : Int)) (k : R cx kc ks n σ tgt ls st) : R cx kc ks n σ pc ls (.int x :: st) := by
  subst hc
  intro p e s m args below meth c dC dI dA E H locs la F hH hS hl
  exact lv_tableOut F.1 F.2.1 hd h ht (k p e s m args below meth c dC dI dA E H locs la F hH hS hl)
theorem R.istore_n (hc : cx = (l, y, cc, nL, ret, d, mc, ms, n0, X, Q)) {j : Fin 4} {i : Nat} (hi : (j : Nat) = i) {x : Int32} {ls' : List (Option Value)} (hd : decode cc pc = .ok (.istore_n j, 1)) (hn : i < nL) (ho : rl_ok1 ls i = true) (hs : ls.set i (some (.int x)) = ls') (k : R cx kc ks n σ (pc + 1) ls' st) : R cx kc ks n σ pc ls (.int x :: st) := by
  subst hc
  intro p e s m args below meth c dC dI dA E H locs la F hH hS hl
  subst hs
  refine lv_istore_n F.1 F.2.1 hd hi hl hn rfl (fun la hl => k p e s m args below meth c dC dI dA E H locs la F hH hS (rl_store (v := .int x) (fun q a b => by simp only [Bool.and_eq_true, Bool.not_eq_true', beq_eq_false_iff_ne, ne_eq, Bool.and_eq_false_iff]; exact ⟨a, by by_cases z : q.1 + 1 = i; exact Or.inr (fun y => b ⟨z, y⟩); exact Or.inl z⟩) ho hl))
theorem R.istore (hc : cx = (l, y, cc, nL, ret, d, mc, ms, n0, X, Q)) {i : Nat} {x : Int32} {ls' : List (Option Value)} (hd : decode cc pc = .ok (.istore i, 2)) (hn : i < nL) (ho : rl_ok1 ls i = true) (hs : ls.set i (some (.int x)) = ls') (k : R cx kc ks n σ (pc + 2) ls' st) : R cx kc ks n σ pc ls (.int x :: st) := by
  subst hc
  intro p e s m args below meth c dC dI dA E H locs la F hH hS hl
  subst hs
  refine lv_istore F.1 F.2.1 hd hl hn rfl (fun la hl => k p e s m args below meth c dC dI dA E H locs la F hH hS (rl_store (v := .int x) (fun q a b => by simp only [Bool.and_eq_true, Bool.not_eq_true', beq_eq_false_iff_ne, ne_eq, Bool.and_eq_false_iff]; exact ⟨a, by by_cases z : q.1 + 1 = i; exact Or.inr (fun y => b ⟨z, y⟩); exact Or.inl z⟩) ho hl))
theorem R.astore_n (hc : cx = (l, y, cc, nL, ret, d, mc, ms, n0, X, Q)) {j : Fin 4} {i : Nat} (hi : (j : Nat) = i) {x : Nat} {ls' : List (Option Value)} (hd : decode cc pc = .ok (.astore_n j, 1)) (hn : i < nL) (ho : rl_ok1 ls i = true) (hs : ls.set i (some (.ref x)) = ls') (k : R cx kc ks n σ (pc + 1) ls' st) : R cx kc ks n σ pc ls (.ref x :: st) := by
  subst hc
  intro p e s m args below meth c dC dI dA E H locs la F hH hS hl
  subst hs
  refine lv_astore_n F.1 F.2.1 hd hi hl hn rfl (fun la hl => k p e s m args below meth c dC dI dA E H locs la F hH hS (rl_store (v := .ref x) (fun q a b => by simp only [Bool.and_eq_true, Bool.not_eq_true', beq_eq_false_iff_ne, ne_eq, Bool.and_eq_false_iff]; exact ⟨a, by by_cases z : q.1 + 1 = i; exact Or.inr (fun y => b ⟨z, y⟩); exact Or.inl z⟩) ho hl))
theorem R.astore (hc : cx = (l, y, cc, nL, ret, d, mc, ms, n0, X, Q)) {i : Nat} {x : Nat} {ls' : List (Option Value)} (hd : decode cc pc = .ok (.astore i, 2)) (hn : i < nL) (ho : rl_ok1 ls i = true) (hs : ls.set i (some (.ref x)) = ls') (k : R cx kc ks n σ (pc + 2) ls' st) : R cx kc ks n σ pc ls (.ref x :: st) := by
  subst hc
  intro p e s m args below meth c dC dI dA E H locs la F hH hS hl
  subst hs
  refine lv_astore F.1 F.2.1 hd hl hn rfl (fun la hl => k p e s m args below meth c dC dI dA E H locs la F hH hS (rl_store (v := .ref x) (fun q a b => by simp only [Bool.and_eq_true, Bool.not_eq_true', beq_eq_false_iff_ne, ne_eq, Bool.and_eq_false_iff]; exact ⟨a, by by_cases z : q.1 + 1 = i; exact Or.inr (fun y => b ⟨z, y⟩); exact Or.inl z⟩) ho hl))
theorem R.iinc (hc : cx = (l, y, cc, nL, ret, d, mc, ms, n0, X, Q)) {i : Nat} {j : Int} {x v : Int32} {ls' : List (Option Value)} (hd : decode cc pc = .ok (.iinc i j, 3)) (hv : x + Int32.ofInt j = v) (hk : ls[i]? = some (some (.int x))) (hn : i < nL) (ho : rl_ok1 ls i = true) (hs : ls.set i (some (.int v)) = ls') (k : R cx kc ks n σ (pc + 3) ls' st) : R cx kc ks n σ pc ls st := by
  subst hc
  intro p e s m args below meth c dC dI dA E H locs la F hH hS hl
  subst hs
  obtain ⟨k9, hk9⟩ := List.getElem?_of_mem ((rl_tl_mem (E := E) ls 0 (i, .int x)).mpr ⟨i, .int x, hk, by simp [rl_tv]⟩)
  refine lv_iinc F.1 F.2.1 hd hl hk9 hv hn rfl (fun la hl => k p e s m args below meth c dC dI dA E H locs la F hH hS (rl_store (v := .int v) (fun q a b => by simp only [Bool.and_eq_true, Bool.not_eq_true', beq_eq_false_iff_ne, ne_eq, Bool.and_eq_false_iff]; exact ⟨a, by by_cases z : q.1 + 1 = i; exact Or.inr (fun y => b ⟨z, y⟩); exact Or.inl z⟩) ho hl))
theorem R.iret (hc : cx = (l, y, cc, nL, ret, d, mc, ms, n0, X, Q)) {v : Int32} (hr : ret = some .int) (hd : decode cc pc = .ok (.ireturn, 1)) (hq : Q (some (.int v)) n σ) : R cx mc ms n σ pc ls [.int v] := by
  subst hc
  intro p e s m args below meth c dC dI dA E H locs la F hH hS hl
  exact W.iret (v := v) F.1 F.2.1 (F.2.2.1.trans hr) (fun t ht hW => ⟨⟨some (.int v), n, σ, rfl, hq, by rw [ht]; exact hH⟩, hS.F ht⟩) hS.2.2 hd F.2.2.2.2.2.2.1
theorem R.lret (hc : cx = (l, y, cc, nL, ret, d, mc, ms, n0, X, Q)) {v : Int64} (hr : ret = some .long) (hd : decode cc pc = .ok (.lreturn, 1)) (hq : Q (some (.long v)) n σ) : R cx mc ms n σ pc ls [.long v] := by
  subst hc
  intro p e s m args below meth c dC dI dA E H locs la F hH hS hl
  exact W.lret (v := v) F.1 F.2.1 (F.2.2.1.trans hr) (fun t ht hW => ⟨⟨some (.long v), n, σ, rfl, hq, by rw [ht]; exact hH⟩, hS.F ht⟩) hS.2.2 hd F.2.2.2.2.2.2.1
theorem R.vret (hc : cx = (l, y, cc, nL, ret, d, mc, ms, n0, X, Q)) (hr : ret = none) (hd : decode cc pc = .ok (.return_, 1)) (hq : Q (none) n σ) : R cx mc ms n σ pc ls [] := by
  subst hc
  intro p e s m args below meth c dC dI dA E H locs la F hH hS hl
  exact W.vret F.1 F.2.1 (F.2.2.1.trans hr) (fun t ht hW => ⟨⟨none, n, σ, rfl, hq, by rw [ht]; exact hH⟩, hS.F ht⟩) hS.2.2 hd F.2.2.2.2.2.2.1
theorem R.zret (hc : cx = (l, y, cc, nL, ret, d, mc, ms, n0, X, Q)) {v : Int32} {ty : FieldType} (hr : ret = some ty) (hn : narrow ty (.int v) = .int v) (hd : decode cc pc = .ok (.ireturn, 1)) (hq : Q (some (.int v)) n σ) : R cx mc ms n σ pc ls [.int v] := by
  subst hc
  intro p e s m args below meth c dC dI dA E H locs la F hH hS hl
  exact W.zret (v := v) F.1 F.2.1 (F.2.2.1.trans hr) hn (fun t ht hW => ⟨⟨some (.int v), n, σ, rfl, hq, by rw [ht]; exact hH⟩, hS.F ht⟩) hS.2.2 hd F.2.2.2.2.2.2.1
/-- a field's place: its class in the world's list, its slot, what the tables say -/
def rl_GF (own : String) (idx ci k : Nat) (fin : Bool) (ty : FieldType) : Prop := ∃ (C : String) (T : u_T) (N : Nat) (ty0 : Nat → FieldType), vwCl[ci]? = some (C, T, N) ∧ (∀ w ∈ u_ws C T N, w ∈ g_tbl) ∧ (∀ k, k < N → parseFieldDescriptor (T k).2.2.1 = some (ty0 k)) ∧ (∀ a, a < N → ∀ b, b < N → a ≠ b → (T a).2.1 ≠ (T b).2.1) ∧ k < N ∧ Cond.fieldLink own idx (T k).1 (T k).2.1 (T k).2.2.1 ∈ g_tbl ∧ (T k).2.2.2 = fin ∧ ty0 k = ty ∧ (fin = true → (T k).1 = own)
theorem R.getf (hc : cx = (l, y, cc, nL, ret, d, mc, ms, n0, X, Q)) {i idx ci k : Nat} {fin : Bool} {ty : FieldType} {fs : List Value} {v : Value} (hg : rl_GF y.cls idx ci k fin ty) (he : σ i = some (.inr (ci, fs))) (hv : fs[k]? = some v) (hd : decode cc pc = .ok (.getfield idx, 3)) (kk : R cx kc ks n σ (pc + 3) ls (v :: st)) : R cx kc ks n σ pc ls (.ref i :: st) := by
  subst hc
  intro p e s m args below meth c dC dI dA E H locs la F hH hS hl
  obtain ⟨C, T, N, ty0, g1, g2, g3, g4, g5, g6, g7, g8, -⟩ := hg
  exact va_get (v := rl_tv E v) (fs := fs.map (rl_tv E)) F.1 F.2.1 F.2.2.2.2.2.1 g2 F.2.2.2.2.1 F.2.2.2.2.2.2.2.1 hH.2.2 i (rl_tw_at he (rl_lt hH he)) g1 k g5 (F.2.2.2.2.2.1 _ g6) (fun _ h => h) (by rw [List.getElem?_map, hv]; rfl) hd (kk p e s m args below meth c dC dI dA E H locs la F hH hS hl)
theorem rl_Hw.up {dC : Nat → ClassId} {dI : Nat → Nat → Nat} {dA : Nat → ClassId} {E : EE} {n i : Nat} {σ : Wd} {H H1 : Heap} {c0 c : PE} (h : rl_Hw dC dI dA E n σ H) (hi : σ i = some c0) (hP : va_P (dC, dI) vwCl ((rl_tw dA E n σ).set i (rl_ad E i, rl_te dA E c)) H1) : rl_Hw dC dI dA E n (rl_up σ i c) H1 := by
  refine ⟨h.1, fun j => ?_, ?_⟩
  · by_cases hj : j = i
    · subst hj
      rw [rl_up_s]
      exact ⟨fun _ => rl_lt h hi, fun _ => rfl⟩
    · rw [rl_up_n hj]
      exact h.2.1 j
  · rw [rl_tw_set] at hP
    exact hP
/-- where a new cell comes to lie -/
theorem rl_Hw.push {dC : Nat → ClassId} {dI : Nat → Nat → Nat} {dA : Nat → ClassId} {E : EE} {n q : Nat} {σ : Wd} {H1 : Heap} {c : PE} (h : n + 1 ≤ 1000000 ∧ ∀ i, (σ i).isSome = true ↔ i < n) (hP : va_P (dC, dI) vwCl (rl_tw dA E n σ ++ [(q, rl_te dA E c)]) H1) (hD : va_D (fun q => E.1 ≤ q) (rl_tw dA E n σ ++ [(q, rl_te dA E c)])) (hz : H1.size ≤ E.1 + n + 1) : q = rl_ad E n ∧ rl_Hw dC dI dA E (n + 1) (rl_up σ n c) H1 := by
  have hl : (rl_tw dA E n σ).length = n := by simp [rl_tw]
  have hq : (rl_tw dA E n σ ++ [(q, rl_te dA E c)])[n]? = some (q, rl_te dA E c) := by
    rw [List.getElem?_append_right (by omega), hl]
    simp
  have hlt : q < H1.size := (hP n _ hq).lt
  have hA : E.1 ≤ q := hD.2 n _ hq
  have e : q = rl_ad E n := by
    by_cases hx : q = E.1 + n
    · rw [hx]; simp [rl_ad, show n < 1000000 by omega]
    · exfalso
      have hi : q - E.1 < n := by omega
      have h2 : (rl_tw dA E n σ ++ [(q, rl_te dA E c)])[q - E.1]? = some (q, rl_te dA E ((σ (q - E.1)).getD (.inr (0, [])))) := by
        rw [List.getElem?_append_left (by omega)]
        simp [rl_tw, hi]
        simp [rl_ad, show q - E.1 < 1000000 by omega]
        omega
      have := hD.1 n (q - E.1) _ _ hq h2 rfl
      omega
  subst e
  refine ⟨rfl, h.1, fun j => ?_, ?_⟩
  · by_cases hj : j = n
    · subst hj
      rw [rl_up_s]
      exact ⟨fun _ => by omega, fun _ => rfl⟩
    · rw [rl_up_n hj, h.2 j]
      omega
  · rw [rl_tw_push]
    exact hP
theorem rl_known {p : Program} {l : Launch} {e : Env} {Rm : Room} {s : State} {m : MethodId} {args : Array Value} {below : List Frame} {meth : Method} {c : Code} {H : Heap} {locs : List Loc} {cells slots : Nat} {Q : State → Prop} {g : JFrame} (k : H.size ≤ s.heap.size + cells → W p l e Rm s m args below meth c H locs cells slots Q g) : W p l e Rm s m args below meth c H locs cells slots Q g := fun T hT X => k (by rw [← hT]; exact X.heapSize) T hT X
theorem R.putf (hc : cx = (l, y, cc, nL, ret, d, mc, ms, n0, X, Q)) {i idx ci k : Nat} {ty : FieldType} {fs fs' : List Value} {v : Value} (hg : rl_GF y.cls idx ci k false ty) (he : σ i = some (.inr (ci, fs))) (hl9 : k < fs.length) (hn : ∀ E, narrow ty (rl_tv E v) = rl_tv E v) (hfit : ∀ E, fits ty (rl_tv E v) = true) (hs : fs.set k v = fs') (hd : decode cc pc = .ok (.putfield idx, 3)) (kk : R cx kc ks n (rl_up σ i (.inr (ci, fs'))) (pc + 3) ls st) : R cx kc ks n σ pc ls (v :: .ref i :: st) := by
  subst hc
  intro p e s m args below meth c dC dI dA E H locs la F hH hS hl
  subst hs
  obtain ⟨C, T, N, ty0, g1, g2, g3, g4, g5, g6, g7, g8, g9⟩ := hg
  refine va_put F.1 F.2.1 F.2.2.2.2.2.1 g2 ty0 g3 g4 F.2.2.2.2.1 F.2.2.2.2.2.2.2.1 hH.2.2 (rl_D hH.1) hS i (rl_tw_at he (rl_lt hH he)) g1 k g5 (F.2.2.2.2.2.1 _ g6) (fun _ h => h) g7 (by rw [g3 k g5, g8]) (hn E) (hfit E) (by rw [List.length_map]; exact hl9) hd (fun H1 locs1 hP _ hS1 => ?_)
  exact kk p e s m args below meth c dC dI dA E H1 locs1 la F (hH.up (c := .inr (ci, fs.set k v)) he (by rw [← List.map_set] at hP; exact hP)) hS1 hl
theorem R.putF (hc : cx = (l, y, cc, nL, ret, d, mc, ms, n0, X, Q)) {i idx ci k : Nat} {ty : FieldType} {fs fs' : List Value} {v : Value} (hy : y.name = "<init>") (hg : rl_GF y.cls idx ci k true ty) (he : σ i = some (.inr (ci, fs))) (hl9 : k < fs.length) (hn : ∀ E, narrow ty (rl_tv E v) = rl_tv E v) (hfit : ∀ E, fits ty (rl_tv E v) = true) (hs : fs.set k v = fs') (hd : decode cc pc = .ok (.putfield idx, 3)) (kk : R cx kc ks n (rl_up σ i (.inr (ci, fs'))) (pc + 3) ls st) : R cx kc ks n σ pc ls (v :: .ref i :: st) := by
  subst hc
  intro p e s m args below meth c dC dI dA E H locs la F hH hS hl
  subst hs
  obtain ⟨C, T, N, ty0, g1, g2, g3, g4, g5, g6, g7, g8, g9⟩ := hg
  refine va_putF F.1 F.2.1 F.2.2.2.2.2.1 g2 ty0 g3 g4 F.2.2.2.2.1 F.2.2.2.2.2.2.2.1 hH.2.2 (rl_D hH.1) hS i (rl_tw_at he (rl_lt hH he)) g1 k g5 (F.2.2.2.2.2.1 _ g6) (fun _ h => h) g7 (F.2.2.2.2.2.2.2.2.2.2.1.trans hy) (g9 rfl) (by rw [g3 k g5, g8]) (hn E) (hfit E) (by rw [List.length_map]; exact hl9) hd (fun H1 locs1 hP _ hS1 => ?_)
  exact kk p e s m args below meth c dC dI dA E H1 locs1 la F (hH.up (c := .inr (ci, fs.set k v)) he (by rw [← List.map_set] at hP; exact hP)) hS1 hl
theorem R.iald (hc : cx = (l, y, cc, nL, ret, d, mc, ms, n0, X, Q)) {i m9 j : Nat} {f : Nat → Int32} (he : σ i = some (.inl (0, m9, .inl f))) (hj : j < m9) (hm : m9 < 2 ^ 31) (hd : decode cc pc = .ok (.iaload, 1)) (k : R cx kc ks n σ (pc + 1) ls (.int (f j) :: st)) : R cx kc ks n σ pc ls (.int (nI j) :: .ref i :: st) := by
  subst hc
  intro p e s m args below meth c dC dI dA E H locs la F hH hS hl
  refine va_iald F.1 F.2.1 F.2.2.2.2.2.2.2.1 hH.2.2 i 0 (rl_tw_at he (rl_lt hH he)) rfl (vp_in_nI hj hm) hd ?_
  rw [nI_clamp (by omega)]
  exact k p e s m args below meth c dC dI dA E H locs la F hH hS hl
theorem R.cald (hc : cx = (l, y, cc, nL, ret, d, mc, ms, n0, X, Q)) {i m9 j : Nat} {f : Nat → Int32} (he : σ i = some (.inl (2, m9, .inl f))) (hj : j < m9) (hm : m9 < 2 ^ 31) (hd : decode cc pc = .ok (.caload, 1)) (k : R cx kc ks n σ (pc + 1) ls (.int (f j) :: st)) : R cx kc ks n σ pc ls (.int (nI j) :: .ref i :: st) := by
  subst hc
  intro p e s m args below meth c dC dI dA E H locs la F hH hS hl
  refine va_cald F.1 F.2.1 F.2.2.2.2.2.2.2.1 hH.2.2 i 2 (rl_tw_at he (rl_lt hH he)) rfl (vp_in_nI hj hm) hd ?_
  rw [nI_clamp (by omega)]
  exact k p e s m args below meth c dC dI dA E H locs la F hH hS hl
theorem R.lald (hc : cx = (l, y, cc, nL, ret, d, mc, ms, n0, X, Q)) {i m9 j : Nat} {f : Nat → Int64} (he : σ i = some (.inl (1, m9, .inr (.inl f)))) (hj : j < m9) (hm : m9 < 2 ^ 31) (hd : decode cc pc = .ok (.laload, 1)) (k : R cx kc ks n σ (pc + 1) ls (.long (f j) :: st)) : R cx kc ks n σ pc ls (.int (nI j) :: .ref i :: st) := by
  subst hc
  intro p e s m args below meth c dC dI dA E H locs la F hH hS hl
  refine va_lald F.1 F.2.1 F.2.2.2.2.2.2.2.1 hH.2.2 i 1 (rl_tw_at he (rl_lt hH he)) rfl (vp_in_nI hj hm) hd ?_
  rw [nI_clamp (by omega)]
  exact k p e s m args below meth c dC dI dA E H locs la F hH hS hl
theorem R.iast (hc : cx = (l, y, cc, nL, ret, d, mc, ms, n0, X, Q)) {i m9 j : Nat} {f : Nat → Int32} {x : Int32} (he : σ i = some (.inl (0, m9, .inl f))) (hj : j < m9) (hm : m9 < 2 ^ 31) (hd : decode cc pc = .ok (.iastore, 1)) (k : R cx kc ks n (rl_up σ i (.inl (0, m9, .inl (upd f j x)))) (pc + 1) ls st) : R cx kc ks n σ pc ls (.int x :: .int (nI j) :: .ref i :: st) := by
  subst hc
  intro p e s m args below meth c dC dI dA E H locs la F hH hS hl
  refine va_iast F.1 F.2.1 F.2.2.2.2.2.2.2.1 hH.2.2 (rl_D hH.1) hS i 0 (rl_tw_at he (rl_lt hH he)) rfl (vp_in_nI hj hm) hd (fun H1 locs1 hP _ hS1 => ?_)
  rw [nI_clamp (by omega)] at hP
  exact k p e s m args below meth c dC dI dA E H1 locs1 la F (hH.up (c := .inl (0, m9, .inl (upd f j x))) he hP) hS1 hl
theorem R.cast (hc : cx = (l, y, cc, nL, ret, d, mc, ms, n0, X, Q)) {i m9 j : Nat} {f : Nat → Int32} {x : Int32} (he : σ i = some (.inl (2, m9, .inl f))) (hj : j < m9) (hm : m9 < 2 ^ 31) (hd : decode cc pc = .ok (.castore, 1)) (k : R cx kc ks n (rl_up σ i (.inl (2, m9, .inl (upd f j (vp_nar .char x))))) (pc + 1) ls st) : R cx kc ks n σ pc ls (.int x :: .int (nI j) :: .ref i :: st) := by
  subst hc
  intro p e s m args below meth c dC dI dA E H locs la F hH hS hl
  refine va_cast F.1 F.2.1 F.2.2.2.2.2.2.2.1 hH.2.2 (rl_D hH.1) hS i 2 (rl_tw_at he (rl_lt hH he)) rfl (vp_in_nI hj hm) hd (fun H1 locs1 hP _ hS1 => ?_)
  rw [nI_clamp (by omega)] at hP
  exact k p e s m args below meth c dC dI dA E H1 locs1 la F (hH.up (c := .inl (2, m9, .inl (upd f j (vp_nar .char x)))) he hP) hS1 hl
theorem R.last (hc : cx = (l, y, cc, nL, ret, d, mc, ms, n0, X, Q)) {i m9 j : Nat} {f : Nat → Int64} {x : Int64} (he : σ i = some (.inl (1, m9, .inr (.inl f)))) (hj : j < m9) (hm : m9 < 2 ^ 31) (hd : decode cc pc = .ok (.lastore, 1)) (k : R cx kc ks n (rl_up σ i (.inl (1, m9, .inr (.inl (vp_updL f j x))))) (pc + 1) ls st) : R cx kc ks n σ pc ls (.long x :: .int (nI j) :: .ref i :: st) := by
  subst hc
  intro p e s m args below meth c dC dI dA E H locs la F hH hS hl
  refine va_last F.1 F.2.1 F.2.2.2.2.2.2.2.1 hH.2.2 (rl_D hH.1) hS i 1 (rl_tw_at he (rl_lt hH he)) rfl (vp_in_nI hj hm) hd (fun H1 locs1 hP _ hS1 => ?_)
  rw [nI_clamp (by omega)] at hP
  exact k p e s m args below meth c dC dI dA E H1 locs1 la F (hH.up (c := .inl (1, m9, .inr (.inl (vp_updL f j x)))) he hP) hS1 hl
theorem R.alen (hc : cx = (l, y, cc, nL, ret, d, mc, ms, n0, X, Q)) {i t9 m9 : Nat} {x : (Nat → Int32) ⊕ (Nat → Int64) ⊕ (Nat → UInt32) ⊕ (Nat → UInt64) ⊕ (Nat → Option Nat)} {ty : FieldType} (he : σ i = some (.inl (t9, m9, x))) (ht : ∀ dA, (rl_tys dA)[t9]? = some (dA t9, ty)) (hd : decode cc pc = .ok (.arraylength, 1)) (k : R cx kc ks n σ (pc + 1) ls (.int (nI m9) :: st)) : R cx kc ks n σ pc ls (.ref i :: st) := by
  subst hc
  intro p e s m args below meth c dC dI dA E H locs la F hH hS hl
  exact va_alen F.1 F.2.1 F.2.2.2.2.2.2.2.1 hH.2.2 i t9 (rl_tw_at he (rl_lt hH he)) (ht dA) rfl hd (k p e s m args below meth c dC dI dA E H locs la F hH hS hl)
theorem R.copyi (hc : cx = (l, y, cc, nL, ret, d, mc, ms, n0, X, Q)) {idx i0 i1 m0 m1 sp dp j : Nat} {f g : Nat → Int32} (hw : Cond.methodLink y.cls idx arraycopyName ∈ g_tbl) (h0 : σ i0 = some (.inl (0, m0, .inl f))) (h1 : σ i1 = some (.inl (0, m1, .inl g))) (ha : sp + j ≤ m0) (hb : dp + j ≤ m1) (hm0 : m0 < 2 ^ 31) (hm1 : m1 < 2 ^ 31) (hd1 : 1 ≤ d) (hcat : (st.map fun v => v.category).sum ≤ 8) (hd : decode cc pc = .ok (.invokestatic idx, 3)) (k : R cx kc ks n (rl_up σ i1 (.inl (0, m1, .inl (va_cpy f g sp dp j)))) (pc + 3) ls st) : R cx kc ks n σ pc ls (.int (nI j) :: .int (nI dp) :: .ref i1 :: .int (nI sp) :: .ref i0 :: st) := by
  subst hc
  intro p e s m args below meth c dC dI dA E H locs la F hH hS hl
  refine va_copyi (f := f) (g := g) F.1 F.2.1 (F.2.2.2.1.trans hl.1.symm) F.2.2.2.2.1 (F.2.2.2.2.2.1 _ hw) (F.2.2.2.2.2.1 _ rl_acN) (F.2.2.2.2.2.1 _ rl_acS) (F.2.2.2.2.2.1 _ rl_acI) F.2.2.2.2.2.2.2.1 hH.2.2 (rl_D hH.1) hS i0 i1 0 0 (rl_tw_at h0 (rl_lt hH h0)) (rl_tw_at h1 (rl_lt hH h1)) rfl rfl (by decide) (ty := .int) (nI_pos (by omega)) (nI_pos (by omega)) (nI_pos (by omega)) (by rw [nI_clamp (by omega), nI_clamp (by omega)]; exact ha) (by rw [nI_clamp (by omega), nI_clamp (by omega)]; exact hb) (fun _ _ => rfl) (show 1 ≤ d from hd1) ?_ hd (fun H1 locs1 hP _ hS1 => ?_)
  · rw [rl_cats]
    have : nativeFrameWords "java/lang/System" "arraycopy" 5 + 11 ≤ 56 := by decide
    show _ ≤ 64 * d
    omega
  · rw [nI_clamp (by omega), nI_clamp (by omega), nI_clamp (by omega)] at hP
    exact k p e s m args below meth c dC dI dA E H1 locs1 la F (hH.up (c := .inl (0, m1, .inl (va_cpy f g sp dp j))) h1 hP) hS1 hl
theorem R.copyl (hc : cx = (l, y, cc, nL, ret, d, mc, ms, n0, X, Q)) {idx i0 i1 m0 m1 sp dp j : Nat} {f g : Nat → Int64} (hw : Cond.methodLink y.cls idx arraycopyName ∈ g_tbl) (h0 : σ i0 = some (.inl (1, m0, .inr (.inl f)))) (h1 : σ i1 = some (.inl (1, m1, .inr (.inl g)))) (ha : sp + j ≤ m0) (hb : dp + j ≤ m1) (hm0 : m0 < 2 ^ 31) (hm1 : m1 < 2 ^ 31) (hd1 : 1 ≤ d) (hcat : (st.map fun v => v.category).sum ≤ 8) (hd : decode cc pc = .ok (.invokestatic idx, 3)) (k : R cx kc ks n (rl_up σ i1 (.inl (1, m1, .inr (.inl (va_cpy f g sp dp j))))) (pc + 3) ls st) : R cx kc ks n σ pc ls (.int (nI j) :: .int (nI dp) :: .ref i1 :: .int (nI sp) :: .ref i0 :: st) := by
  subst hc
  intro p e s m args below meth c dC dI dA E H locs la F hH hS hl
  refine va_copyl (f := f) (g := g) F.1 F.2.1 (F.2.2.2.1.trans hl.1.symm) F.2.2.2.2.1 (F.2.2.2.2.2.1 _ hw) (F.2.2.2.2.2.1 _ rl_acN) (F.2.2.2.2.2.1 _ rl_acS) (F.2.2.2.2.2.1 _ rl_acI) F.2.2.2.2.2.2.2.1 hH.2.2 (rl_D hH.1) hS i0 i1 1 1 (rl_tw_at h0 (rl_lt hH h0)) (rl_tw_at h1 (rl_lt hH h1)) rfl rfl (by decide) (ty := .long) (nI_pos (by omega)) (nI_pos (by omega)) (nI_pos (by omega)) (by rw [nI_clamp (by omega), nI_clamp (by omega)]; exact ha) (by rw [nI_clamp (by omega), nI_clamp (by omega)]; exact hb) (fun _ _ => rfl) (show 1 ≤ d from hd1) ?_ hd (fun H1 locs1 hP _ hS1 => ?_)
  · rw [rl_cats]
    have : nativeFrameWords "java/lang/System" "arraycopy" 5 + 11 ≤ 56 := by decide
    show _ ≤ 64 * d
    omega
  · rw [nI_clamp (by omega), nI_clamp (by omega), nI_clamp (by omega)] at hP
    exact k p e s m args below meth c dC dI dA E H1 locs1 la F (hH.up (c := .inl (1, m1, .inr (.inl (va_cpy f g sp dp j)))) h1 hP) hS1 hl
end RL
