theorem inR_out {x : Int32} {hi : Nat} (hh : hi < 2 ^ 31) (h : inR x 0 hi = false) : x.toInt < 0 ∨ (hi : Int) < x.toInt := by
  simp only [inR, decide_eq_false_iff_not] at h
  by_cases h0 : x.toInt < 0
  · exact Or.inl h0
  · right
    have h1 : nI 0 ≤ x := by
      rw [Int32.le_iff_toInt_le, nI_toInt (by decide)]
      omega
    have h2 : ¬ x ≤ nI hi := fun z => h ⟨h1, z⟩
    rw [Int32.le_iff_toInt_le, nI_toInt hh] at h2
    omega
def okP (x y z : Int32) : Bool := inR x 0 4 && inR y 0 7 && inR z 0 60
def s_puddle (np : Nat) (x y z : Int32) : Int32 := if okP x y z then (if np < 7 then nI np else -3) else -1
def okQ (x y z : Int32) : Bool := inR x 0 7 && inR y 0 20 && inR z 1 30
def s_person (nq : Nat) (x y z : Int32) : Int32 := if okQ x y z then (if nq < 6 then nI nq else -3) else -1
def okS (np : Nat) (p s : Int32) : Bool := inI p np && inR s 0 7
def s_show (a : SA) (np : Nat) (p s : Int32) : Int32 := if okS np p s then nI (a 1 (tN p)) else -1
def ofS (a : SA) (np nq hr p : Nat) (k : Nat) : Int32 := match k with
  | 0 => nI (a 0 p)
  | 1 => nI (a 1 p)
  | 2 => nI (a 2 p)
  | 3 => whoF a p nq 0
  | _ => nI (less a np hr p)
def s_of (a : SA) (np nq hr : Nat) (p w : Int32) : Int32 := if inI p np && inR w 0 4 then ofS a np nq hr (tN p) (tN w) else -1
def atS (a : SA) (np nq q : Nat) (k : Nat) : Int32 := match k with
  | 0 => nI (a 3 q)
  | 1 => nI (a 4 q)
  | 2 => nI (a 5 q)
  | 3 => cI (a 6 q)
  | _ => nI (bsN (fun p => fitB a (clS a nq) p q (a 2 p)) np)
def s_at (a : SA) (np nq : Nat) (q w : Int32) : Int32 := if inI q nq && inR w 0 4 then atS a np nq (tN q) (tN w) else -1
def s_type (tl : Nat) (x : Int32) : Int32 := if inR x 32 126 then (if tl < 90 then nI (tl + 1) else -3) else -1
def s_read (tp : Nat → Nat) (tl : Nat) : Int32 := match readP tp tl with
  | .inl f => fI f
  | .inr q => nI q.2.1
def cntS (a : SA) (np nq hr m : Nat) (k : Nat) : Int32 := match k with
  | 0 => nI np
  | 1 => nI nq
  | 2 => nI hr
  | 3 => nI (sumN (a 2) np)
  | 4 => nI (bsN (dryB a) np)
  | 5 => nI (bsN (hasC a) nq)
  | 6 => nI (clS a nq)
  | _ => nI m
def s_count (a : SA) (np nq hr m : Nat) (w : Int32) : Int32 := if inR w 0 7 then cntS a np nq hr m (tN w) else -1
def s_rain (a : SA) (np : Nat) (x : Int32) : Int32 := if inR x 1 60 then nI (sumN (rainK a (tN x) np 2) np) else -1
def okD (a : SA) (np : Nat) (p : Int32) : Bool := inI p np && !dryB a (tN p)
def s_drive (a : SA) (np : Nat) (p : Int32) : Int32 := if inI p np then (if dryB a (tN p) then -2 else nI (a 2 (tN p) / 2)) else -1
def okN (a : SA) (nq : Nat) (q : Int32) : Bool := inI q nq && hasC a (tN q)
def s_send (a : SA) (nq : Nat) (q : Int32) : Int32 := if inI q nq then (if hasC a (tN q) then cI (a 6 (tN q)) else -2) else -1
def okL (a : SA) (nq : Nat) (q x : Int32) : Bool := inI q nq && inR x 0 20 && !(a 4 (tN q) == tN x)
def s_later (a : SA) (nq : Nat) (q x : Int32) : Int32 := if inI q nq && inR x 0 20 then (if a 4 (tN q) = tN x then -2 else nI (a 4 (tN q))) else -1
def s_seed (dr : Nat) (v : Int32) : Int32 := if v < 0 then -1 else nI dr
def s_undo (hs : List SN) : Int32 := match hs with
  | [] => -4
  | _ :: t => nI t.length
def s_restore (im : IM) : Int32 := match im with
  | none => -4
  | some _ => 1
set_option maxHeartbeats 4000000 in
set_option maxRecDepth 100000 in
theorem f_X4_addPuddle (l : Launch) (d : Nat) (X : Nat × (Nat → Int32)) (n : Nat) {σ : Wd} {b : Nat} {a : SA} {np nq hr dr : Nat} (hS : St σ b a np nq hr dr) (h7 : ¬ np < 7) (hu : np ≤ 7) (x y z : Int32) : CN l yX4_addPuddle cX4_addPuddle 4 (some .int) (d) X n [.ref b, .int x, .int y, .int z] σ (fun v σ' => v = some (.int (-3)) ∧ σ' = σ) := by
  refine CN.of (by decide) [some (.ref b), some (.int x), some (.int y), some (.int z)] (fun _ => Nat.le_of_ble_eq_true rfl) (fun _ => rfl) (fun cx hc => ?_)
  refine R.aload_n (j := 0) (i := 0) hc rfl rfl dX4_addPuddle_0 ?_
  refine R.get hc gf_X4_33_r dX4_addPuddle_1 (hS.obj) rfl ?_
  refine R.bipush hc bp_7 dX4_addPuddle_4 ?_
  refine R.icmpN_lt (tgt := 12) hc dX4_addPuddle_6 (by decide) (by omega) (by omega) (fun q => absurd q h7) (fun _ => ?_)
  refine R.bipush hc bp_m3 dX4_addPuddle_9 ?_
  exact R.iret hc rfl dX4_addPuddle_11 ⟨rfl, rfl, rfl⟩
set_option maxHeartbeats 4000000 in
set_option maxRecDepth 100000 in
theorem f_X4_addPerson (l : Launch) (d : Nat) (X : Nat × (Nat → Int32)) (n : Nat) {σ : Wd} {b : Nat} {a : SA} {np nq hr dr : Nat} (hS : St σ b a np nq hr dr) (h7 : ¬ nq < 6) (hu : nq ≤ 6) (x y z : Int32) : CN l yX4_addPerson cX4_addPerson 4 (some .int) (d) X n [.ref b, .int x, .int y, .int z] σ (fun v σ' => v = some (.int (-3)) ∧ σ' = σ) := by
  refine CN.of (by decide) [some (.ref b), some (.int x), some (.int y), some (.int z)] (fun _ => Nat.le_of_ble_eq_true rfl) (fun _ => rfl) (fun cx hc => ?_)
  refine R.aload_n (j := 0) (i := 0) hc rfl rfl dX4_addPerson_0 ?_
  refine R.get hc gf_X4_37_r dX4_addPerson_1 (hS.obj) rfl ?_
  refine R.bipush hc bp_6 dX4_addPerson_4 ?_
  refine R.icmpN_lt (tgt := 12) hc dX4_addPerson_6 (by decide) (by omega) (by omega) (fun q => absurd q h7) (fun _ => ?_)
  refine R.bipush hc bp_m3 dX4_addPerson_9 ?_
  exact R.iret hc rfl dX4_addPerson_11 ⟨rfl, rfl, rfl⟩
set_option maxHeartbeats 4000000 in
set_option maxRecDepth 100000 in
theorem f_X5_add (l : Launch) (d : Nat) (X : Nat × (Nat → Int32)) (n : Nat) {σ : Wd} {b : Nat} {tp : Nat → Nat} {tl pl : Nat} (hT : Tp σ b tp tl pl) (h9 : ¬ tl < 90) (hu : tl ≤ 90) (x : Int32) : CN l yX5_add cX5_add 2 (some .int) (d) X n [.ref b, .int x] σ (fun v σ' => v = some (.int (-3)) ∧ σ' = σ) := by
  refine CN.of (by decide) [some (.ref b), some (.int x)] (fun _ => Nat.le_of_ble_eq_true rfl) (fun _ => rfl) (fun cx hc => ?_)
  obtain ⟨h0, f, h1, h2⟩ := hT
  refine R.aload_n (j := 0) (i := 0) hc rfl rfl dX5_add_0 ?_
  refine R.get hc gf_X5_15_r dX5_add_1 (h0) rfl ?_
  refine R.bipush hc bp_90 dX5_add_4 ?_
  refine R.icmpN_lt (tgt := 12) hc dX5_add_6 (by decide) (by omega) (by omega) (fun q => absurd q h9) (fun _ => ?_)
  refine R.bipush hc bp_m3 dX5_add_9 ?_
  exact R.iret hc rfl dX5_add_11 ⟨rfl, rfl, rfl⟩
set_option maxHeartbeats 4000000 in
set_option maxRecDepth 100000 in
theorem c_X6_puddle (l : Launch) (d : Nat) (X : Nat × (Nat → Int32)) (n : Nat) {σ : Wd} {a : SA} {np nq hr dr : Nat} {hs : List SN} {im : IM} {tp : Nat → Nat} {tl : Nat} {ln sz : Nat → Nat} {it : Nat → Nat → Int64} (hC : CA σ a np nq hr dr hs im tp tl ln sz it) (hI : WI a np nq hr dr hs im tp tl ln sz) (x y z : Int32) : CN l yX6_puddle cX6_puddle 5 (some .int) ((d + 2)) X n [.ref 0, .int x, .int y, .int z] σ (fun v σ' => v = some (.int (s_puddle np x y z)) ∧ ((if okP x y z = true ∧ np < 7 then CA σ' (a3 a np (tN x) (tN y) (tN z)) (np + 1) nq hr dr [] im tp tl ln sz it else CA σ' a np nq hr dr hs im tp tl ln sz it) ∧ Eqo 0 42 σ σ')) := by
  refine CN.of (by decide) [some (.ref 0), some (.int x), some (.int y), some (.int z), none] (fun _ => Nat.le_of_ble_eq_true rfl) (fun _ => rfl) (fun cx hc => ?_)
  obtain ⟨c0, c1, c2, ⟨xa, xp, xq, xh, xd, c3⟩, c4, ⟨xl, c5⟩, c6, ⟨xf, xg, xT, c7⟩, ⟨yd, yc, yb, yn, ys, yl, ym, c8⟩⟩ := hC
  obtain ⟨hW, hh, hdr, hwh, hwi, hU, hV⟩ := hI
  have hW1 := hW.1
  have hW2 := hW.2.1
  have hF : Eqo 0 42 σ σ := Eqo.rf
  refine R.iload_n (j := 1) (i := 1) hc rfl rfl dX6_puddle_0 ?_
  refine R.iconst hc ic_0 dX6_puddle_1 ?_
  refine R.iconst hc ic_4 dX6_puddle_2 ?_
  refine R.cSr hc m_X6_within lk_X6_64 dX6_puddle_3 (c_X6_within l (d + 1) X n _ _ _) rfl rfl (by omega) ⟨Nat.le_refl _, Nat.le_refl _⟩ (Nat.le_of_ble_eq_true rfl) ?_
  refine R.ifB_eq (tgt := 26) hc dX6_puddle_6 (by decide) (fun q1 => ?_) (fun q1 => ?_)
  · refine R.iconst hc ic_m1 dX6_puddle_26 ?_
    have e9 : (-1) = s_puddle np x y z := by simp [s_puddle, okP, q1]
    exact R.iret hc rfl dX6_puddle_27 ⟨rfl, congrArg (fun z => some (Value.int z)) e9, by rw [if_neg (by simp [okP, q1])]; exact ⟨c0, c1, c2, ⟨_, _, _, _, _, c3⟩, c4, ⟨_, c5⟩, c6, ⟨_, _, _, c7⟩, ⟨_, _, _, _, _, _, _, c8⟩⟩, hF⟩
  refine R.iload_n (j := 2) (i := 2) hc rfl rfl dX6_puddle_9 ?_
  refine R.cSr hc m_X6_isSight lk_X6_68 dX6_puddle_10 (c_X6_isSight l d X n _) rfl rfl (by omega) ⟨Nat.le_refl _, Nat.le_refl _⟩ (Nat.le_of_ble_eq_true rfl) ?_
  refine R.ifB_eq (tgt := 26) hc dX6_puddle_13 (by decide) (fun q2 => ?_) (fun q2 => ?_)
  · refine R.iconst hc ic_m1 dX6_puddle_26 ?_
    have e9 : (-1) = s_puddle np x y z := by simp [s_puddle, okP, q2]
    exact R.iret hc rfl dX6_puddle_27 ⟨rfl, congrArg (fun z => some (Value.int z)) e9, by rw [if_neg (by simp [okP, q2])]; exact ⟨c0, c1, c2, ⟨_, _, _, _, _, c3⟩, c4, ⟨_, c5⟩, c6, ⟨_, _, _, c7⟩, ⟨_, _, _, _, _, _, _, c8⟩⟩, hF⟩
  refine R.iload_n (j := 3) (i := 3) hc rfl rfl dX6_puddle_16 ?_
  refine R.iconst hc ic_0 dX6_puddle_17 ?_
  refine R.bipush hc bp_60 dX6_puddle_18 ?_
  refine R.cSr hc m_X6_within lk_X6_64 dX6_puddle_20 (c_X6_within l (d + 1) X n _ _ _) rfl rfl (by omega) ⟨Nat.le_refl _, Nat.le_refl _⟩ (Nat.le_of_ble_eq_true rfl) ?_
  refine R.ifB_ne (tgt := 28) hc dX6_puddle_23 (by decide) (fun q3 => ?_) (fun q3 => ?_)
  rotate_left
  · refine R.iconst hc ic_m1 dX6_puddle_26 ?_
    have e9 : (-1) = s_puddle np x y z := by simp [s_puddle, okP, q3]
    exact R.iret hc rfl dX6_puddle_27 ⟨rfl, congrArg (fun z => some (Value.int z)) e9, by rw [if_neg (by simp [okP, q3])]; exact ⟨c0, c1, c2, ⟨_, _, _, _, _, c3⟩, c4, ⟨_, c5⟩, c6, ⟨_, _, _, c7⟩, ⟨_, _, _, _, _, _, _, c8⟩⟩, hF⟩
  have hok : okP x y z = true := by simp [okP, q1, q2, q3]
  by_cases h7 : np < 7
  rotate_left
  · refine R.aload_n (j := 0) (i := 0) hc rfl rfl dX6_puddle_28 ?_
    refine R.get hc gf_X6_10_r dX6_puddle_29 (c0) rfl ?_
    refine R.iload_n (j := 1) (i := 1) hc rfl rfl dX6_puddle_32 ?_
    refine R.iload_n (j := 2) (i := 2) hc rfl rfl dX6_puddle_33 ?_
    refine R.iload_n (j := 3) (i := 3) hc rfl rfl dX6_puddle_34 ?_
    refine R.cVr hc m_X4_addPuddle lk_X6_72 dX6_puddle_35 (f_X4_addPuddle l (d + 1) X n c1 h7 (by omega) _ _ _) (c1.obj) rfl rfl rfl (by omega) ⟨Nat.le_refl _, Nat.le_refl _⟩ (Nat.le_of_ble_eq_true rfl) ?_
    refine R.ist4 hc dX6_puddle_38 (by decide) rfl ?_
    refine R.iload (i := 4) hc rfl dX6_puddle_40 ?_
    refine R.if_lt (tgt := 52) hc dX6_puddle_42 (by decide) (fun _ => ?_) (fun q => absurd (by decide) q)
    refine R.iload (i := 4) hc rfl dX6_puddle_52 ?_
    have e9 : (-3) = s_puddle np x y z := by simp [s_puddle, hok, h7]
    exact R.iret hc rfl dX6_puddle_54 ⟨rfl, congrArg (fun z => some (Value.int z)) e9, by rw [if_neg (by omega)]; exact ⟨c0, c1, c2, ⟨_, _, _, _, _, c3⟩, c4, ⟨_, c5⟩, c6, ⟨_, _, _, c7⟩, ⟨_, _, _, _, _, _, _, c8⟩⟩, hF⟩
  obtain ⟨i1, rfl, _, g1, t1⟩ := inR_of (by decide) (by decide) q1
  obtain ⟨i2, rfl, _, g2, t2⟩ := inR_of (by decide) (by decide) q2
  obtain ⟨i3, rfl, _, g3, t3⟩ := inR_of (by decide) (by decide) q3
  rw [t1, t2, t3] at hc
  refine R.aload_n (j := 0) (i := 0) hc rfl rfl dX6_puddle_28 ?_
  refine R.get hc gf_X6_10_r dX6_puddle_29 (c0) rfl ?_
  refine R.iload_n (j := 1) (i := 1) hc rfl rfl dX6_puddle_32 ?_
  refine R.iload_n (j := 2) (i := 2) hc rfl rfl dX6_puddle_33 ?_
  refine R.iload_n (j := 3) (i := 3) hc rfl rfl dX6_puddle_34 ?_
  refine R.cVi hc m_X4_addPuddle lk_X6_72 dX6_puddle_35 (c_X4_addPuddle l (d + 1) X n c1 (by omega) hW2) (c1.obj) rfl rfl rfl (by omega) ⟨Nat.le_refl _, Nat.le_refl _⟩ (Nat.le_of_ble_eq_true rfl) (fun σ hX => ?_)
  obtain ⟨c1, hE⟩ := hX
  have c0 := (hE 0 (by omega)).trans c0
  have c2 := Hi.ag c2 (fun j h1 h2 => hE j (by omega))
  have c3 := SX.ag c3 (fun j h1 h2 => hE j (by omega))
  have c4 := Im.ag c4 (fun j h1 h2 => hE j (by omega))
  have c5 := Tp.ag c5 (fun j h1 h2 => hE j (by omega))
  have c6 := Sh.ag c6 (fun j h1 h2 => hE j (by omega))
  have c7 := Mt.ag c7 (fun j h1 h2 => hE j (by omega))
  have c8 := Od.ag c8 (fun j h1 h2 => hE j (by omega))
  have hF : Eqo 0 42 _ σ := fun j hj => (hE j (by omega)).trans (hF j hj)
  refine R.ist4 hc dX6_puddle_38 (by decide) rfl ?_
  refine R.iload (i := 4) hc rfl dX6_puddle_40 ?_
  refine R.ifN_lt (tgt := 52) hc dX6_puddle_42 (by decide) (by omega) ?_
  refine R.aload_n (j := 0) (i := 0) hc rfl rfl dX6_puddle_45 ?_
  refine R.get hc gf_X6_19_r dX6_puddle_46 (c0) rfl ?_
  refine R.dVu hc m_X0_forget lk_X6_76 dX6_puddle_49 (c_X0_forget l (d + 1) X n c2 (np + 1) nq) (Hi.o c2) rfl rfl rfl (by omega) ⟨Nat.le_refl _, Nat.le_refl _⟩ (Nat.le_of_ble_eq_true rfl) (fun σ hX => ?_)
  obtain ⟨c2, hE⟩ := hX
  have c0 := (hE 0 (by omega)).trans c0
  have c1 := SX.ag c1 (fun j h1 h2 => hE j (by omega))
  have c3 := SX.ag c3 (fun j h1 h2 => hE j (by omega))
  have c4 := Im.ag c4 (fun j h1 h2 => hE j (by omega))
  have c5 := Tp.ag c5 (fun j h1 h2 => hE j (by omega))
  have c6 := Sh.ag c6 (fun j h1 h2 => hE j (by omega))
  have c7 := Mt.ag c7 (fun j h1 h2 => hE j (by omega))
  have c8 := Od.ag c8 (fun j h1 h2 => hE j (by omega))
  have hF : Eqo 0 42 _ σ := fun j hj => (hE j (by omega)).trans (hF j hj)
  refine R.iload (i := 4) hc rfl dX6_puddle_52 ?_
  have e9 : nI np = s_puddle np (nI i1) (nI i2) (nI i3) := by simp [s_puddle, hok, h7]
  exact R.iret hc rfl dX6_puddle_54 ⟨rfl, congrArg (fun z => some (Value.int z)) e9, by rw [if_pos ⟨hok, h7⟩]; exact ⟨c0, c1, c2, ⟨_, _, _, _, _, c3⟩, c4, ⟨_, c5⟩, c6, ⟨_, _, _, c7⟩, ⟨_, _, _, _, _, _, _, c8⟩⟩, hF⟩
set_option maxHeartbeats 4000000 in
set_option maxRecDepth 100000 in
theorem c_X6_person (l : Launch) (d : Nat) (X : Nat × (Nat → Int32)) (n : Nat) {σ : Wd} {a : SA} {np nq hr dr : Nat} {hs : List SN} {im : IM} {tp : Nat → Nat} {tl : Nat} {ln sz : Nat → Nat} {it : Nat → Nat → Int64} (hC : CA σ a np nq hr dr hs im tp tl ln sz it) (hI : WI a np nq hr dr hs im tp tl ln sz) (x y z : Int32) : CN l yX6_person cX6_person 5 (some .int) ((d + 2)) X n [.ref 0, .int x, .int y, .int z] σ (fun v σ' => v = some (.int (s_person nq x y z)) ∧ ((if okQ x y z = true ∧ nq < 6 then CA σ' (a4 a nq (tN x) (tN y) (tN z)) np (nq + 1) hr dr [] im tp tl ln sz it else CA σ' a np nq hr dr hs im tp tl ln sz it) ∧ Eqo 0 42 σ σ')) := by
  refine CN.of (by decide) [some (.ref 0), some (.int x), some (.int y), some (.int z), none] (fun _ => Nat.le_of_ble_eq_true rfl) (fun _ => rfl) (fun cx hc => ?_)
  obtain ⟨c0, c1, c2, ⟨xa, xp, xq, xh, xd, c3⟩, c4, ⟨xl, c5⟩, c6, ⟨xf, xg, xT, c7⟩, ⟨yd, yc, yb, yn, ys, yl, ym, c8⟩⟩ := hC
  obtain ⟨hW, hh, hdr, hwh, hwi, hU, hV⟩ := hI
  have hW1 := hW.1
  have hW2 := hW.2.1
  have hF : Eqo 0 42 σ σ := Eqo.rf
  refine R.iload_n (j := 1) (i := 1) hc rfl rfl dX6_person_0 ?_
  refine R.cSr hc m_X6_isSight lk_X6_68 dX6_person_1 (c_X6_isSight l d X n _) rfl rfl (by omega) ⟨Nat.le_refl _, Nat.le_refl _⟩ (Nat.le_of_ble_eq_true rfl) ?_
  refine R.ifB_eq (tgt := 24) hc dX6_person_4 (by decide) (fun q1 => ?_) (fun q1 => ?_)
  · refine R.iconst hc ic_m1 dX6_person_24 ?_
    have e9 : (-1) = s_person nq x y z := by simp [s_person, okQ, q1]
    exact R.iret hc rfl dX6_person_25 ⟨rfl, congrArg (fun z => some (Value.int z)) e9, by rw [if_neg (by simp [okQ, q1])]; exact ⟨c0, c1, c2, ⟨_, _, _, _, _, c3⟩, c4, ⟨_, c5⟩, c6, ⟨_, _, _, c7⟩, ⟨_, _, _, _, _, _, _, c8⟩⟩, hF⟩
  refine R.iload_n (j := 2) (i := 2) hc rfl rfl dX6_person_7 ?_
  refine R.cSr hc m_X6_isComing lk_X6_79 dX6_person_8 (c_X6_isComing l d X n _) rfl rfl (by omega) ⟨Nat.le_refl _, Nat.le_refl _⟩ (Nat.le_of_ble_eq_true rfl) ?_
  refine R.ifB_eq (tgt := 24) hc dX6_person_11 (by decide) (fun q2 => ?_) (fun q2 => ?_)
  · refine R.iconst hc ic_m1 dX6_person_24 ?_
    have e9 : (-1) = s_person nq x y z := by simp [s_person, okQ, q2]
    exact R.iret hc rfl dX6_person_25 ⟨rfl, congrArg (fun z => some (Value.int z)) e9, by rw [if_neg (by simp [okQ, q2])]; exact ⟨c0, c1, c2, ⟨_, _, _, _, _, c3⟩, c4, ⟨_, c5⟩, c6, ⟨_, _, _, c7⟩, ⟨_, _, _, _, _, _, _, c8⟩⟩, hF⟩
  refine R.iload_n (j := 3) (i := 3) hc rfl rfl dX6_person_14 ?_
  refine R.iconst hc ic_1 dX6_person_15 ?_
  refine R.bipush hc bp_30 dX6_person_16 ?_
  refine R.cSr hc m_X6_within lk_X6_64 dX6_person_18 (c_X6_within l (d + 1) X n _ _ _) rfl rfl (by omega) ⟨Nat.le_refl _, Nat.le_refl _⟩ (Nat.le_of_ble_eq_true rfl) ?_
  refine R.ifB_ne (tgt := 26) hc dX6_person_21 (by decide) (fun q3 => ?_) (fun q3 => ?_)
  rotate_left
  · refine R.iconst hc ic_m1 dX6_person_24 ?_
    have e9 : (-1) = s_person nq x y z := by simp [s_person, okQ, q3]
    exact R.iret hc rfl dX6_person_25 ⟨rfl, congrArg (fun z => some (Value.int z)) e9, by rw [if_neg (by simp [okQ, q3])]; exact ⟨c0, c1, c2, ⟨_, _, _, _, _, c3⟩, c4, ⟨_, c5⟩, c6, ⟨_, _, _, c7⟩, ⟨_, _, _, _, _, _, _, c8⟩⟩, hF⟩
  have hok : okQ x y z = true := by simp [okQ, q1, q2, q3]
  by_cases h7 : nq < 6
  rotate_left
  · refine R.aload_n (j := 0) (i := 0) hc rfl rfl dX6_person_26 ?_
    refine R.get hc gf_X6_10_r dX6_person_27 (c0) rfl ?_
    refine R.iload_n (j := 1) (i := 1) hc rfl rfl dX6_person_30 ?_
    refine R.iload_n (j := 2) (i := 2) hc rfl rfl dX6_person_31 ?_
    refine R.iload_n (j := 3) (i := 3) hc rfl rfl dX6_person_32 ?_
    refine R.cVr hc m_X4_addPerson lk_X6_82 dX6_person_33 (f_X4_addPerson l (d + 1) X n c1 h7 (by omega) _ _ _) (c1.obj) rfl rfl rfl (by omega) ⟨Nat.le_refl _, Nat.le_refl _⟩ (Nat.le_of_ble_eq_true rfl) ?_
    refine R.ist4 hc dX6_person_36 (by decide) rfl ?_
    refine R.iload (i := 4) hc rfl dX6_person_38 ?_
    refine R.if_lt (tgt := 50) hc dX6_person_40 (by decide) (fun _ => ?_) (fun q => absurd (by decide) q)
    refine R.iload (i := 4) hc rfl dX6_person_50 ?_
    have e9 : (-3) = s_person nq x y z := by simp [s_person, hok, h7]
    exact R.iret hc rfl dX6_person_52 ⟨rfl, congrArg (fun z => some (Value.int z)) e9, by rw [if_neg (by omega)]; exact ⟨c0, c1, c2, ⟨_, _, _, _, _, c3⟩, c4, ⟨_, c5⟩, c6, ⟨_, _, _, c7⟩, ⟨_, _, _, _, _, _, _, c8⟩⟩, hF⟩
  obtain ⟨i1, rfl, _, g1, t1⟩ := inR_of (by decide) (by decide) q1
  obtain ⟨i2, rfl, _, g2, t2⟩ := inR_of (by decide) (by decide) q2
  obtain ⟨i3, rfl, _, g3, t3⟩ := inR_of (by decide) (by decide) q3
  rw [t1, t2, t3] at hc
  refine R.aload_n (j := 0) (i := 0) hc rfl rfl dX6_person_26 ?_
  refine R.get hc gf_X6_10_r dX6_person_27 (c0) rfl ?_
  refine R.iload_n (j := 1) (i := 1) hc rfl rfl dX6_person_30 ?_
  refine R.iload_n (j := 2) (i := 2) hc rfl rfl dX6_person_31 ?_
  refine R.iload_n (j := 3) (i := 3) hc rfl rfl dX6_person_32 ?_
  refine R.cVi hc m_X4_addPerson lk_X6_82 dX6_person_33 (c_X4_addPerson l (d + 1) X n c1 (by omega) hW1) (c1.obj) rfl rfl rfl (by omega) ⟨Nat.le_refl _, Nat.le_refl _⟩ (Nat.le_of_ble_eq_true rfl) (fun σ hX => ?_)
  obtain ⟨c1, hE⟩ := hX
  have c0 := (hE 0 (by omega)).trans c0
  have c2 := Hi.ag c2 (fun j h1 h2 => hE j (by omega))
  have c3 := SX.ag c3 (fun j h1 h2 => hE j (by omega))
  have c4 := Im.ag c4 (fun j h1 h2 => hE j (by omega))
  have c5 := Tp.ag c5 (fun j h1 h2 => hE j (by omega))
  have c6 := Sh.ag c6 (fun j h1 h2 => hE j (by omega))
  have c7 := Mt.ag c7 (fun j h1 h2 => hE j (by omega))
  have c8 := Od.ag c8 (fun j h1 h2 => hE j (by omega))
  have hF : Eqo 0 42 _ σ := fun j hj => (hE j (by omega)).trans (hF j hj)
  refine R.ist4 hc dX6_person_36 (by decide) rfl ?_
  refine R.iload (i := 4) hc rfl dX6_person_38 ?_
  refine R.ifN_lt (tgt := 50) hc dX6_person_40 (by decide) (by omega) ?_
  refine R.aload_n (j := 0) (i := 0) hc rfl rfl dX6_person_43 ?_
  refine R.get hc gf_X6_19_r dX6_person_44 (c0) rfl ?_
  refine R.dVu hc m_X0_forget lk_X6_76 dX6_person_47 (c_X0_forget l (d + 1) X n c2 np (nq + 1)) (Hi.o c2) rfl rfl rfl (by omega) ⟨Nat.le_refl _, Nat.le_refl _⟩ (Nat.le_of_ble_eq_true rfl) (fun σ hX => ?_)
  obtain ⟨c2, hE⟩ := hX
  have c0 := (hE 0 (by omega)).trans c0
  have c1 := SX.ag c1 (fun j h1 h2 => hE j (by omega))
  have c3 := SX.ag c3 (fun j h1 h2 => hE j (by omega))
  have c4 := Im.ag c4 (fun j h1 h2 => hE j (by omega))
  have c5 := Tp.ag c5 (fun j h1 h2 => hE j (by omega))
  have c6 := Sh.ag c6 (fun j h1 h2 => hE j (by omega))
  have c7 := Mt.ag c7 (fun j h1 h2 => hE j (by omega))
  have c8 := Od.ag c8 (fun j h1 h2 => hE j (by omega))
  have hF : Eqo 0 42 _ σ := fun j hj => (hE j (by omega)).trans (hF j hj)
  refine R.iload (i := 4) hc rfl dX6_person_50 ?_
  have e9 : nI nq = s_person nq (nI i1) (nI i2) (nI i3) := by simp [s_person, hok, h7]
  exact R.iret hc rfl dX6_person_52 ⟨rfl, congrArg (fun z => some (Value.int z)) e9, by rw [if_pos ⟨hok, h7⟩]; exact ⟨c0, c1, c2, ⟨_, _, _, _, _, c3⟩, c4, ⟨_, c5⟩, c6, ⟨_, _, _, c7⟩, ⟨_, _, _, _, _, _, _, c8⟩⟩, hF⟩
set_option maxHeartbeats 4000000 in
set_option maxRecDepth 100000 in
theorem c_X6_show (l : Launch) (d : Nat) (X : Nat × (Nat → Int32)) (n : Nat) {σ : Wd} {a : SA} {np nq hr dr : Nat} {hs : List SN} {im : IM} {tp : Nat → Nat} {tl : Nat} {ln sz : Nat → Nat} {it : Nat → Nat → Int64} (hC : CA σ a np nq hr dr hs im tp tl ln sz it) (hI : WI a np nq hr dr hs im tp tl ln sz) (p s : Int32) : CN l yX6_show cX6_show 4 (some .int) ((d + 2)) X n [.ref 0, .int p, .int s] σ (fun v σ' => v = some (.int (s_show a np p s)) ∧ ((if okS np p s = true then CA σ' (a2 a 1 (tN p) (tN s)) np nq hr dr hs im tp tl ln sz it else CA σ' a np nq hr dr hs im tp tl ln sz it) ∧ Eqo 0 42 σ σ')) := by
  refine CN.of (by decide) [some (.ref 0), some (.int p), some (.int s), none] (fun _ => Nat.le_of_ble_eq_true rfl) (fun _ => rfl) (fun cx hc => ?_)
  obtain ⟨c0, c1, c2, ⟨xa, xp, xq, xh, xd, c3⟩, c4, ⟨xl, c5⟩, c6, ⟨xf, xg, xT, c7⟩, ⟨yd, yc, yb, yn, ys, yl, ym, c8⟩⟩ := hC
  obtain ⟨hW, hh, hdr, hwh, hwi, hU, hV⟩ := hI
  have hW1 := hW.1
  have hW2 := hW.2.1
  have hF : Eqo 0 42 σ σ := Eqo.rf
  refine R.aload_n (j := 0) (i := 0) hc rfl rfl dX6_show_0 ?_
  refine R.get hc gf_X6_10_r dX6_show_1 (c0) rfl ?_
  refine R.iload_n (j := 1) (i := 1) hc rfl rfl dX6_show_4 ?_
  refine R.cVr hc m_X4_hasPuddle lk_X6_85 dX6_show_5 (c_X4_hasPuddle l (d + 1) X n c1 hW _) (c1.obj) rfl rfl rfl (by omega) ⟨Nat.le_refl _, Nat.le_refl _⟩ (Nat.le_of_ble_eq_true rfl) ?_
  refine R.ifB_eq (tgt := 18) hc dX6_show_8 (by decide) (fun q1 => ?_) (fun q1 => ?_)
  · refine R.iconst hc ic_m1 dX6_show_18 ?_
    have e9 : (-1) = s_show a np p s := by simp [s_show, okS, q1]
    exact R.iret hc rfl dX6_show_19 ⟨rfl, congrArg (fun z => some (Value.int z)) e9, by rw [if_neg (by simp [okS, q1])]; exact ⟨c0, c1, c2, ⟨_, _, _, _, _, c3⟩, c4, ⟨_, c5⟩, c6, ⟨_, _, _, c7⟩, ⟨_, _, _, _, _, _, _, c8⟩⟩, hF⟩
  refine R.iload_n (j := 2) (i := 2) hc rfl rfl dX6_show_11 ?_
  refine R.cSr hc m_X6_isSight lk_X6_68 dX6_show_12 (c_X6_isSight l d X n _) rfl rfl (by omega) ⟨Nat.le_refl _, Nat.le_refl _⟩ (Nat.le_of_ble_eq_true rfl) ?_
  refine R.ifB_ne (tgt := 20) hc dX6_show_15 (by decide) (fun q2 => ?_) (fun q2 => ?_)
  rotate_left
  · refine R.iconst hc ic_m1 dX6_show_18 ?_
    have e9 : (-1) = s_show a np p s := by simp [s_show, okS, q2]
    exact R.iret hc rfl dX6_show_19 ⟨rfl, congrArg (fun z => some (Value.int z)) e9, by rw [if_neg (by simp [okS, q2])]; exact ⟨c0, c1, c2, ⟨_, _, _, _, _, c3⟩, c4, ⟨_, c5⟩, c6, ⟨_, _, _, c7⟩, ⟨_, _, _, _, _, _, _, c8⟩⟩, hF⟩
  have hok : okS np p s = true := by simp [okS, q1, q2]
  obtain ⟨i1, rfl, g1, t1⟩ := inI_tN (by omega) q1
  obtain ⟨i2, rfl, _, g2, t2⟩ := inR_of (by decide) (by decide) q2
  have hA : s_show a np (nI i1) (nI i2) = nI (a 1 i1) := by simp [s_show, hok, t1]
  rw [hA, t1, t2] at hc
  refine R.aload_n (j := 0) (i := 0) hc rfl rfl dX6_show_20 ?_
  refine R.get hc gf_X6_10_r dX6_show_21 (c0) rfl ?_
  refine R.get hc gf_X6_88 dX6_show_24 (c1.obj) rfl ?_
  refine R.iload_n (j := 1) (i := 1) hc rfl rfl dX6_show_27 ?_
  refine R.ialdE hc dX6_show_28 (c1.r1 (by omega)) (by omega) (by decide) ?_
  refine R.istn3 hc dX6_show_29 (by decide) rfl ?_
  refine R.aload_n (j := 0) (i := 0) hc rfl rfl dX6_show_30 ?_
  refine R.get hc gf_X6_10_r dX6_show_31 (c0) rfl ?_
  refine R.get hc gf_X6_88 dX6_show_34 (c1.obj) rfl ?_
  refine R.iload_n (j := 1) (i := 1) hc rfl rfl dX6_show_37 ?_
  refine R.iload_n (j := 2) (i := 2) hc rfl rfl dX6_show_38 ?_
  refine R.iastW hc dX6_show_39 (c1.w1 _ _) (by omega) (by decide) (fun σ hX => ?_)
  obtain ⟨c1, hE⟩ := hX
  have c0 := (hE 0 (by omega)).trans c0
  have c2 := Hi.ag c2 (fun j h1 h2 => hE j (by omega))
  have c3 := SX.ag c3 (fun j h1 h2 => hE j (by omega))
  have c4 := Im.ag c4 (fun j h1 h2 => hE j (by omega))
  have c5 := Tp.ag c5 (fun j h1 h2 => hE j (by omega))
  have c6 := Sh.ag c6 (fun j h1 h2 => hE j (by omega))
  have c7 := Mt.ag c7 (fun j h1 h2 => hE j (by omega))
  have c8 := Od.ag c8 (fun j h1 h2 => hE j (by omega))
  have hF : Eqo 0 42 _ σ := fun j hj => (hE j (by omega)).trans (hF j hj)
  refine R.iload_n (j := 3) (i := 3) hc rfl rfl dX6_show_40 ?_
  exact R.iret hc rfl dX6_show_41 ⟨rfl, rfl, by rw [if_pos hok]; exact ⟨c0, c1, c2, ⟨_, _, _, _, _, c3⟩, c4, ⟨_, c5⟩, c6, ⟨_, _, _, c7⟩, ⟨_, _, _, _, _, _, _, c8⟩⟩, hF⟩
set_option maxHeartbeats 4000000 in
set_option maxRecDepth 100000 in
theorem c_X6_of (l : Launch) (d : Nat) (X : Nat × (Nat → Int32)) (n : Nat) {σ : Wd} {a : SA} {np nq hr dr : Nat} {hs : List SN} {im : IM} {tp : Nat → Nat} {tl : Nat} {ln sz : Nat → Nat} {it : Nat → Nat → Int64} (hC : CA σ a np nq hr dr hs im tp tl ln sz it) (hI : WI a np nq hr dr hs im tp tl ln sz) (p w : Int32) : CN l yX6_of cX6_of 3 (some .int) ((d + 2)) X n [.ref 0, .int p, .int w] σ (fun v σ' => v = some (.int (s_of a np nq hr p w)) ∧ (CA σ' a np nq hr dr hs im tp tl ln sz it ∧ Eqo 0 42 σ σ')) := by
  refine CN.of (by decide) [some (.ref 0), some (.int p), some (.int w)] (fun _ => Nat.le_of_ble_eq_true rfl) (fun _ => rfl) (fun cx hc => ?_)
  obtain ⟨c0, c1, c2, ⟨xa, xp, xq, xh, xd, c3⟩, c4, ⟨xl, c5⟩, c6, ⟨xf, xg, xT, c7⟩, ⟨yd, yc, yb, yn, ys, yl, ym, c8⟩⟩ := hC
  obtain ⟨hW, hh, hdr, hwh, hwi, hU, hV⟩ := hI
  have hW1 := hW.1
  have hW2 := hW.2.1
  have hF : Eqo 0 42 σ σ := Eqo.rf
  refine R.aload_n (j := 0) (i := 0) hc rfl rfl dX6_of_0 ?_
  refine R.get hc gf_X6_10_r dX6_of_1 (c0) rfl ?_
  refine R.iload_n (j := 1) (i := 1) hc rfl rfl dX6_of_4 ?_
  refine R.cVr hc m_X4_hasPuddle lk_X6_85 dX6_of_5 (c_X4_hasPuddle l (d + 1) X n c1 hW _) (c1.obj) rfl rfl rfl (by omega) ⟨Nat.le_refl _, Nat.le_refl _⟩ (Nat.le_of_ble_eq_true rfl) ?_
  refine R.ifB_ne (tgt := 13) hc dX6_of_8 (by decide) (fun q1 => ?_) (fun q1 => ?_)
  rotate_left
  · refine R.iconst hc ic_m1 dX6_of_11 ?_
    have e9 : (-1) = s_of a np nq hr p w := by simp [s_of, q1]
    exact R.iret hc rfl dX6_of_12 ⟨rfl, congrArg (fun z => some (Value.int z)) e9, ⟨c0, c1, c2, ⟨_, _, _, _, _, c3⟩, c4, ⟨_, c5⟩, c6, ⟨_, _, _, c7⟩, ⟨_, _, _, _, _, _, _, c8⟩⟩, hF⟩
  refine R.iload_n (j := 2) (i := 2) hc rfl rfl dX6_of_13 ?_
  cases q2 : inR w 0 4 with
  | false =>
    refine R.tabOut (tgt := 103) hc dX6_of_14 (by have := inR_out (by decide) q2; omega) (by decide) ?_
    refine R.iconst hc ic_m1 dX6_of_103 ?_
    have e9 : (-1) = s_of a np nq hr p w := by simp [s_of, q2]
    exact R.iret hc rfl dX6_of_104 ⟨rfl, congrArg (fun z => some (Value.int z)) e9, ⟨c0, c1, c2, ⟨_, _, _, _, _, c3⟩, c4, ⟨_, c5⟩, c6, ⟨_, _, _, c7⟩, ⟨_, _, _, _, _, _, _, c8⟩⟩, hF⟩
  | true =>
    obtain ⟨i1, rfl, g1, t1⟩ := inI_tN (by omega) q1
    obtain ⟨i2, rfl, _, g2, t2⟩ := inR_of (by decide) (by decide) q2
    have hA : s_of a np nq hr (nI i1) (nI i2) = ofS a np nq hr i1 i2 := by simp [s_of, q1, q2, t1, t2]
    rw [hA] at hc
    have hl9 : bsN (dryB a) np < 128 := Nat.lt_of_lt_of_le (bsN_lt _ _) (Nat.pow_le_pow_right (by omega) hW1)
    rcases (by omega : i2 = 0 ∨ i2 = 1 ∨ i2 = 2 ∨ i2 = 3 ∨ i2 = 4) with rfl | rfl | rfl | rfl | rfl
    · refine R.tabIn (x := nI 0) (off := 34) (tgt := 48) hc dX6_of_14 (by decide) (by decide) (by decide) (by decide) ?_
      refine R.aload_n (j := 0) (i := 0) hc rfl rfl dX6_of_48 ?_
      refine R.get hc gf_X6_10_r dX6_of_49 (c0) rfl ?_
      refine R.get hc gf_X6_92 dX6_of_52 (c1.obj) rfl ?_
      refine R.iload_n (j := 1) (i := 1) hc rfl rfl dX6_of_55 ?_
      refine R.ialdE hc dX6_of_56 (c1.r0 (by omega)) (by omega) (by decide) ?_
      exact R.iret hc rfl dX6_of_57 ⟨rfl, rfl, ⟨c0, c1, c2, ⟨_, _, _, _, _, c3⟩, c4, ⟨_, c5⟩, c6, ⟨_, _, _, c7⟩, ⟨_, _, _, _, _, _, _, c8⟩⟩, hF⟩
    · refine R.tabIn (x := nI 1) (off := 44) (tgt := 58) hc dX6_of_14 (by decide) (by decide) (by decide) (by decide) ?_
      refine R.aload_n (j := 0) (i := 0) hc rfl rfl dX6_of_58 ?_
      refine R.get hc gf_X6_10_r dX6_of_59 (c0) rfl ?_
      refine R.get hc gf_X6_88 dX6_of_62 (c1.obj) rfl ?_
      refine R.iload_n (j := 1) (i := 1) hc rfl rfl dX6_of_65 ?_
      refine R.ialdE hc dX6_of_66 (c1.r1 (by omega)) (by omega) (by decide) ?_
      exact R.iret hc rfl dX6_of_67 ⟨rfl, rfl, ⟨c0, c1, c2, ⟨_, _, _, _, _, c3⟩, c4, ⟨_, c5⟩, c6, ⟨_, _, _, c7⟩, ⟨_, _, _, _, _, _, _, c8⟩⟩, hF⟩
    · refine R.tabIn (x := nI 2) (off := 54) (tgt := 68) hc dX6_of_14 (by decide) (by decide) (by decide) (by decide) ?_
      refine R.aload_n (j := 0) (i := 0) hc rfl rfl dX6_of_68 ?_
      refine R.get hc gf_X6_10_r dX6_of_69 (c0) rfl ?_
      refine R.get hc gf_X6_95 dX6_of_72 (c1.obj) rfl ?_
      refine R.iload_n (j := 1) (i := 1) hc rfl rfl dX6_of_75 ?_
      refine R.ialdE hc dX6_of_76 (c1.r2 (by omega)) (by omega) (by decide) ?_
      exact R.iret hc rfl dX6_of_77 ⟨rfl, rfl, ⟨c0, c1, c2, ⟨_, _, _, _, _, c3⟩, c4, ⟨_, c5⟩, c6, ⟨_, _, _, c7⟩, ⟨_, _, _, _, _, _, _, c8⟩⟩, hF⟩
    · refine R.tabIn (x := nI 3) (off := 64) (tgt := 78) hc dX6_of_14 (by decide) (by decide) (by decide) (by decide) ?_
      refine R.aload_n (j := 0) (i := 0) hc rfl rfl dX6_of_78 ?_
      refine R.get hc gf_X6_10_r dX6_of_79 (c0) rfl ?_
      refine R.iload_n (j := 1) (i := 1) hc rfl rfl dX6_of_82 ?_
      refine R.cVr hc m_X4_claimantOf lk_X6_98 dX6_of_83 (c_X4_claimantOf l (d + 1) X n c1 hW (by omega)) (c1.obj) rfl rfl rfl (by omega) ⟨Nat.le_refl _, Nat.le_refl _⟩ (Nat.le_of_ble_eq_true rfl) ?_
      exact R.iret hc rfl dX6_of_86 ⟨rfl, rfl, ⟨c0, c1, c2, ⟨_, _, _, _, _, c3⟩, c4, ⟨_, c5⟩, c6, ⟨_, _, _, c7⟩, ⟨_, _, _, _, _, _, _, c8⟩⟩, hF⟩
    · refine R.tabIn (x := nI 4) (off := 73) (tgt := 87) hc dX6_of_14 (by decide) (by decide) (by decide) (by decide) ?_
      refine R.aload_n (j := 0) (i := 0) hc rfl rfl dX6_of_87 ?_
      refine R.get hc gf_X6_10_r dX6_of_88 (c0) rfl ?_
      refine R.iload_n (j := 1) (i := 1) hc rfl rfl dX6_of_91 ?_
      refine R.aload_n (j := 0) (i := 0) hc rfl rfl dX6_of_92 ?_
      refine R.get hc gf_X6_10_r dX6_of_93 (c0) rfl ?_
      refine R.cVr hc m_X4_drySet lk_X6_102 dX6_of_96 (c_X4_drySet l d X n c1 hW) (c1.obj) rfl rfl rfl (by omega) ⟨Nat.le_refl _, Nat.le_refl _⟩ (Nat.le_of_ble_eq_true rfl) ?_
      refine R.cVr hc m_X4_lessBy lk_X6_106 dX6_of_99 (c_X4_lessBy l d X n c1 hW (by omega) (by omega) hl9) (c1.obj) rfl rfl rfl (by omega) ⟨Nat.le_refl _, Nat.le_refl _⟩ (Nat.le_of_ble_eq_true rfl) ?_
      rw [lessD_eq hW g1]
      exact R.iret hc rfl dX6_of_102 ⟨rfl, rfl, ⟨c0, c1, c2, ⟨_, _, _, _, _, c3⟩, c4, ⟨_, c5⟩, c6, ⟨_, _, _, c7⟩, ⟨_, _, _, _, _, _, _, c8⟩⟩, hF⟩
set_option maxHeartbeats 4000000 in
set_option maxRecDepth 100000 in
theorem c_X6_at (l : Launch) (d : Nat) (X : Nat × (Nat → Int32)) (n : Nat) {σ : Wd} {a : SA} {np nq hr dr : Nat} {hs : List SN} {im : IM} {tp : Nat → Nat} {tl : Nat} {ln sz : Nat → Nat} {it : Nat → Nat → Int64} (hC : CA σ a np nq hr dr hs im tp tl ln sz it) (hI : WI a np nq hr dr hs im tp tl ln sz) (p w : Int32) : CN l yX6_at cX6_at 3 (some .int) ((d + 3)) X n [.ref 0, .int p, .int w] σ (fun v σ' => v = some (.int (s_at a np nq p w)) ∧ (CA σ' a np nq hr dr hs im tp tl ln sz it ∧ Eqo 0 42 σ σ')) := by
  refine CN.of (by decide) [some (.ref 0), some (.int p), some (.int w)] (fun _ => Nat.le_of_ble_eq_true rfl) (fun _ => rfl) (fun cx hc => ?_)
  obtain ⟨c0, c1, c2, ⟨xa, xp, xq, xh, xd, c3⟩, c4, ⟨xl, c5⟩, c6, ⟨xf, xg, xT, c7⟩, ⟨yd, yc, yb, yn, ys, yl, ym, c8⟩⟩ := hC
  obtain ⟨hW, hh, hdr, hwh, hwi, hU, hV⟩ := hI
  have hW1 := hW.1
  have hW2 := hW.2.1
  have hF : Eqo 0 42 σ σ := Eqo.rf
  refine R.aload_n (j := 0) (i := 0) hc rfl rfl dX6_at_0 ?_
  refine R.get hc gf_X6_10_r dX6_at_1 (c0) rfl ?_
  refine R.iload_n (j := 1) (i := 1) hc rfl rfl dX6_at_4 ?_
  refine R.cVr hc m_X4_hasPerson lk_X6_110 dX6_at_5 (c_X4_hasPerson l (d + 2) X n c1 hW _) (c1.obj) rfl rfl rfl (by omega) ⟨Nat.le_refl _, Nat.le_refl _⟩ (Nat.le_of_ble_eq_true rfl) ?_
  refine R.ifB_ne (tgt := 13) hc dX6_at_8 (by decide) (fun q1 => ?_) (fun q1 => ?_)
  rotate_left
  · refine R.iconst hc ic_m1 dX6_at_11 ?_
    have e9 : (-1) = s_at a np nq p w := by simp [s_at, q1]
    exact R.iret hc rfl dX6_at_12 ⟨rfl, congrArg (fun z => some (Value.int z)) e9, ⟨c0, c1, c2, ⟨_, _, _, _, _, c3⟩, c4, ⟨_, c5⟩, c6, ⟨_, _, _, c7⟩, ⟨_, _, _, _, _, _, _, c8⟩⟩, hF⟩
  refine R.iload_n (j := 2) (i := 2) hc rfl rfl dX6_at_13 ?_
  cases q2 : inR w 0 4 with
  | false =>
    refine R.tabOut (tgt := 97) hc dX6_at_14 (by have := inR_out (by decide) q2; omega) (by decide) ?_
    refine R.iconst hc ic_m1 dX6_at_97 ?_
    have e9 : (-1) = s_at a np nq p w := by simp [s_at, q2]
    exact R.iret hc rfl dX6_at_98 ⟨rfl, congrArg (fun z => some (Value.int z)) e9, ⟨c0, c1, c2, ⟨_, _, _, _, _, c3⟩, c4, ⟨_, c5⟩, c6, ⟨_, _, _, c7⟩, ⟨_, _, _, _, _, _, _, c8⟩⟩, hF⟩
  | true =>
    obtain ⟨i1, rfl, g1, t1⟩ := inI_tN (by omega) q1
    obtain ⟨i2, rfl, _, g2, t2⟩ := inR_of (by decide) (by decide) q2
    have hA : s_at a np nq (nI i1) (nI i2) = atS a np nq i1 i2 := by simp [s_at, q1, q2, t1, t2]
    rw [hA] at hc
    rcases (by omega : i2 = 0 ∨ i2 = 1 ∨ i2 = 2 ∨ i2 = 3 ∨ i2 = 4) with rfl | rfl | rfl | rfl | rfl
    · refine R.tabIn (x := nI 0) (off := 34) (tgt := 48) hc dX6_at_14 (by decide) (by decide) (by decide) (by decide) ?_
      refine R.aload_n (j := 0) (i := 0) hc rfl rfl dX6_at_48 ?_
      refine R.get hc gf_X6_10_r dX6_at_49 (c0) rfl ?_
      refine R.get hc gf_X6_113 dX6_at_52 (c1.obj) rfl ?_
      refine R.iload_n (j := 1) (i := 1) hc rfl rfl dX6_at_55 ?_
      refine R.ialdE hc dX6_at_56 (c1.r3 (by omega)) (by omega) (by decide) ?_
      exact R.iret hc rfl dX6_at_57 ⟨rfl, rfl, ⟨c0, c1, c2, ⟨_, _, _, _, _, c3⟩, c4, ⟨_, c5⟩, c6, ⟨_, _, _, c7⟩, ⟨_, _, _, _, _, _, _, c8⟩⟩, hF⟩
    · refine R.tabIn (x := nI 1) (off := 44) (tgt := 58) hc dX6_at_14 (by decide) (by decide) (by decide) (by decide) ?_
      refine R.aload_n (j := 0) (i := 0) hc rfl rfl dX6_at_58 ?_
      refine R.get hc gf_X6_10_r dX6_at_59 (c0) rfl ?_
      refine R.get hc gf_X6_116 dX6_at_62 (c1.obj) rfl ?_
      refine R.iload_n (j := 1) (i := 1) hc rfl rfl dX6_at_65 ?_
      refine R.ialdE hc dX6_at_66 (c1.r4 (by omega)) (by omega) (by decide) ?_
      exact R.iret hc rfl dX6_at_67 ⟨rfl, rfl, ⟨c0, c1, c2, ⟨_, _, _, _, _, c3⟩, c4, ⟨_, c5⟩, c6, ⟨_, _, _, c7⟩, ⟨_, _, _, _, _, _, _, c8⟩⟩, hF⟩
    · refine R.tabIn (x := nI 2) (off := 54) (tgt := 68) hc dX6_at_14 (by decide) (by decide) (by decide) (by decide) ?_
      refine R.aload_n (j := 0) (i := 0) hc rfl rfl dX6_at_68 ?_
      refine R.get hc gf_X6_10_r dX6_at_69 (c0) rfl ?_
      refine R.get hc gf_X6_119 dX6_at_72 (c1.obj) rfl ?_
      refine R.iload_n (j := 1) (i := 1) hc rfl rfl dX6_at_75 ?_
      refine R.ialdE hc dX6_at_76 (c1.r5 (by omega)) (by omega) (by decide) ?_
      exact R.iret hc rfl dX6_at_77 ⟨rfl, rfl, ⟨c0, c1, c2, ⟨_, _, _, _, _, c3⟩, c4, ⟨_, c5⟩, c6, ⟨_, _, _, c7⟩, ⟨_, _, _, _, _, _, _, c8⟩⟩, hF⟩
    · refine R.tabIn (x := nI 3) (off := 64) (tgt := 78) hc dX6_at_14 (by decide) (by decide) (by decide) (by decide) ?_
      refine R.aload_n (j := 0) (i := 0) hc rfl rfl dX6_at_78 ?_
      refine R.get hc gf_X6_10_r dX6_at_79 (c0) rfl ?_
      refine R.get hc gf_X6_122 dX6_at_82 (c1.obj) rfl ?_
      refine R.iload_n (j := 1) (i := 1) hc rfl rfl dX6_at_85 ?_
      refine R.ialdE hc dX6_at_86 (c1.r6 (by omega)) (by omega) (by decide) ?_
      exact R.iret hc rfl dX6_at_87 ⟨rfl, rfl, ⟨c0, c1, c2, ⟨_, _, _, _, _, c3⟩, c4, ⟨_, c5⟩, c6, ⟨_, _, _, c7⟩, ⟨_, _, _, _, _, _, _, c8⟩⟩, hF⟩
    · refine R.tabIn (x := nI 4) (off := 74) (tgt := 88) hc dX6_at_14 (by decide) (by decide) (by decide) (by decide) ?_
      refine R.aload_n (j := 0) (i := 0) hc rfl rfl dX6_at_88 ?_
      refine R.get hc gf_X6_10_r dX6_at_89 (c0) rfl ?_
      refine R.iload_n (j := 1) (i := 1) hc rfl rfl dX6_at_92 ?_
      refine R.cVr hc m_X4_fitSet lk_X6_125 dX6_at_93 (c_X4_fitSet l d X n c1 hW (by omega)) (c1.obj) rfl rfl rfl (by omega) ⟨Nat.le_refl _, Nat.le_refl _⟩ (Nat.le_of_ble_eq_true rfl) ?_
      exact R.iret hc rfl dX6_at_96 ⟨rfl, rfl, ⟨c0, c1, c2, ⟨_, _, _, _, _, c3⟩, c4, ⟨_, c5⟩, c6, ⟨_, _, _, c7⟩, ⟨_, _, _, _, _, _, _, c8⟩⟩, hF⟩
theorem i2c_nI : ∀ c, c < 128 → ((nI c).toUInt32 % 65536).toInt32 = nI c := by decide +kernel
set_option maxHeartbeats 4000000 in
set_option maxRecDepth 100000 in
theorem c_X6_type (l : Launch) (d : Nat) (X : Nat × (Nat → Int32)) (n : Nat) {σ : Wd} {a : SA} {np nq hr dr : Nat} {hs : List SN} {im : IM} {tp : Nat → Nat} {tl : Nat} {ln sz : Nat → Nat} {it : Nat → Nat → Int64} (hC : CA σ a np nq hr dr hs im tp tl ln sz it) (hI : WI a np nq hr dr hs im tp tl ln sz) (x : Int32) : CN l yX6_type cX6_type 2 (some .int) ((d + 1)) X n [.ref 0, .int x] σ (fun v σ' => v = some (.int (s_type tl x)) ∧ ((if inR x 32 126 = true ∧ tl < 90 then CA σ' a np nq hr dr hs im (tpA tp tl (tN x)) (tl + 1) ln sz it else CA σ' a np nq hr dr hs im tp tl ln sz it) ∧ Eqo 0 42 σ σ')) := by
  refine CN.of (by decide) [some (.ref 0), some (.int x)] (fun _ => Nat.le_of_ble_eq_true rfl) (fun _ => rfl) (fun cx hc => ?_)
  obtain ⟨c0, c1, c2, ⟨xa, xp, xq, xh, xd, c3⟩, c4, ⟨xl, c5⟩, c6, ⟨xf, xg, xT, c7⟩, ⟨yd, yc, yb, yn, ys, yl, ym, c8⟩⟩ := hC
  obtain ⟨hW, hh, hdr, hwh, hwi, hU, hV⟩ := hI
  have hW1 := hW.1
  have hW2 := hW.2.1
  have hF : Eqo 0 42 σ σ := Eqo.rf
  have hU1 := hU.1
  refine R.iload_n (j := 1) (i := 1) hc rfl rfl dX6_type_0 ?_
  refine R.bipush hc bp_32 dX6_type_1 ?_
  refine R.bipush hc bp_126 dX6_type_3 ?_
  refine R.cSr hc m_X6_within lk_X6_64 dX6_type_5 (c_X6_within l d X n _ _ _) rfl rfl (by omega) ⟨Nat.le_refl _, Nat.le_refl _⟩ (Nat.le_of_ble_eq_true rfl) ?_
  refine R.ifB_eq (tgt := 23) hc dX6_type_8 (by decide) (fun q1 => ?_) (fun q1 => ?_)
  · refine R.iconst hc ic_m1 dX6_type_23 ?_
    have e9 : (-1) = s_type tl x := by simp [s_type, q1]
    exact R.iret hc rfl dX6_type_24 ⟨rfl, congrArg (fun z => some (Value.int z)) e9, by rw [if_neg (by simp [q1])]; exact ⟨c0, c1, c2, ⟨_, _, _, _, _, c3⟩, c4, ⟨_, c5⟩, c6, ⟨_, _, _, c7⟩, ⟨_, _, _, _, _, _, _, c8⟩⟩, hF⟩
  by_cases h9 : tl < 90
  rotate_left
  · refine R.aload_n (j := 0) (i := 0) hc rfl rfl dX6_type_11 ?_
    refine R.get hc gf_X6_39_r dX6_type_12 (c0) rfl ?_
    refine R.iload_n (j := 1) (i := 1) hc rfl rfl dX6_type_15 ?_
    refine R.i2c hc dX6_type_16 ?_
    refine R.cVr hc m_X5_add lk_X6_128 dX6_type_17 (f_X5_add l d X n c5 h9 (by omega) _) (c5.obj) rfl rfl rfl (by omega) ⟨Nat.le_refl _, Nat.le_refl _⟩ (Nat.le_of_ble_eq_true rfl) ?_
    refine R.goto (tgt := 24) hc dX6_type_20 (by decide) ?_
    have e9 : (-3) = s_type tl x := by simp [s_type, q1, h9]
    exact R.iret hc rfl dX6_type_24 ⟨rfl, congrArg (fun z => some (Value.int z)) e9, by rw [if_neg (by omega)]; exact ⟨c0, c1, c2, ⟨_, _, _, _, _, c3⟩, c4, ⟨_, c5⟩, c6, ⟨_, _, _, c7⟩, ⟨_, _, _, _, _, _, _, c8⟩⟩, hF⟩
  obtain ⟨i1, rfl, _, g1, t1⟩ := inR_of (by decide) (by decide) q1
  have hA : s_type tl (nI i1) = nI (tl + 1) := by simp [s_type, q1, h9]
  rw [hA, t1] at hc
  refine R.aload_n (j := 0) (i := 0) hc rfl rfl dX6_type_11 ?_
  refine R.get hc gf_X6_39_r dX6_type_12 (c0) rfl ?_
  refine R.iload_n (j := 1) (i := 1) hc rfl rfl dX6_type_15 ?_
  refine R.i2c hc dX6_type_16 ?_
  rw [i2c_nI i1 (by omega)]
  refine R.cVi hc m_X5_add lk_X6_128 dX6_type_17 (c_X5_add l d X n c5 h9 (by omega)) (c5.obj) rfl rfl rfl (by omega) ⟨Nat.le_refl _, Nat.le_refl _⟩ (Nat.le_of_ble_eq_true rfl) (fun σ hX => ?_)
  obtain ⟨c5, hE⟩ := hX
  have c0 := (hE 0 (by omega)).trans c0
  have c1 := SX.ag c1 (fun j h1 h2 => hE j (by omega))
  have c2 := Hi.ag c2 (fun j h1 h2 => hE j (by omega))
  have c3 := SX.ag c3 (fun j h1 h2 => hE j (by omega))
  have c4 := Im.ag c4 (fun j h1 h2 => hE j (by omega))
  have c6 := Sh.ag c6 (fun j h1 h2 => hE j (by omega))
  have c7 := Mt.ag c7 (fun j h1 h2 => hE j (by omega))
  have c8 := Od.ag c8 (fun j h1 h2 => hE j (by omega))
  have hF : Eqo 0 42 _ σ := fun j hj => (hE j (by omega)).trans (hF j hj)
  refine R.goto (tgt := 24) hc dX6_type_20 (by decide) ?_
  exact R.iret hc rfl dX6_type_24 ⟨rfl, rfl, by rw [if_pos ⟨q1, h9⟩]; exact ⟨c0, c1, c2, ⟨_, _, _, _, _, c3⟩, c4, ⟨_, c5⟩, c6, ⟨_, _, _, c7⟩, ⟨_, _, _, _, _, _, _, c8⟩⟩, hF⟩
set_option maxHeartbeats 4000000 in
set_option maxRecDepth 100000 in
theorem c_X6_count (l : Launch) (d : Nat) (X : Nat × (Nat → Int32)) (n : Nat) {σ : Wd} {a : SA} {np nq hr dr : Nat} {hs : List SN} {im : IM} {tp : Nat → Nat} {tl : Nat} {ln sz : Nat → Nat} {it : Nat → Nat → Int64} (hC : CA σ a np nq hr dr hs im tp tl ln sz it) (hI : WI a np nq hr dr hs im tp tl ln sz) (w : Int32) : CN l yX6_count cX6_count 2 (some .int) ((d + 2)) X n [.ref 0, .int w] σ (fun v σ' => v = some (.int (s_count a np nq hr hs.length w)) ∧ (CA σ' a np nq hr dr hs im tp tl ln sz it ∧ Eqo 0 42 σ σ')) := by
  refine CN.of (by decide) [some (.ref 0), some (.int w)] (fun _ => Nat.le_of_ble_eq_true rfl) (fun _ => rfl) (fun cx hc => ?_)
  obtain ⟨c0, c1, c2, ⟨xa, xp, xq, xh, xd, c3⟩, c4, ⟨xl, c5⟩, c6, ⟨xf, xg, xT, c7⟩, ⟨yd, yc, yb, yn, ys, yl, ym, c8⟩⟩ := hC
  obtain ⟨hW, hh, hdr, hwh, hwi, hU, hV⟩ := hI
  have hW1 := hW.1
  have hW2 := hW.2.1
  have hF : Eqo 0 42 σ σ := Eqo.rf
  have c20 := c2
  obtain ⟨nx, pf, g1, g2, p0, p1, p5⟩ := c20
  refine R.iload_n (j := 1) (i := 1) hc rfl rfl dX6_count_0 ?_
  cases q2 : inR w 0 7 with
  | false =>
    refine R.tabOut (tgt := 112) hc dX6_count_1 (by have := inR_out (by decide) q2; omega) (by decide) ?_
    refine R.iconst hc ic_m1 dX6_count_112 ?_
    have e9 : (-1) = s_count a np nq hr hs.length w := by simp [s_count, q2]
    exact R.iret hc rfl dX6_count_113 ⟨rfl, congrArg (fun z => some (Value.int z)) e9, ⟨c0, c1, c2, ⟨_, _, _, _, _, c3⟩, c4, ⟨_, c5⟩, c6, ⟨_, _, _, c7⟩, ⟨_, _, _, _, _, _, _, c8⟩⟩, hF⟩
  | true =>
    obtain ⟨i2, rfl, _, g2, t2⟩ := inR_of (by decide) (by decide) q2
    have hA : s_count a np nq hr hs.length (nI i2) = cntS a np nq hr hs.length i2 := by simp [s_count, q2, t2]
    rw [hA] at hc
    rcases (by omega : i2 = 0 ∨ i2 = 1 ∨ i2 = 2 ∨ i2 = 3 ∨ i2 = 4 ∨ i2 = 5 ∨ i2 = 6 ∨ i2 = 7) with rfl | rfl | rfl | rfl | rfl | rfl | rfl | rfl
    · refine R.tabIn (x := nI 0) (off := 47) (tgt := 48) hc dX6_count_1 (by decide) (by decide) (by decide) (by decide) ?_
      refine R.aload_n (j := 0) (i := 0) hc rfl rfl dX6_count_48 ?_
      refine R.get hc gf_X6_10_r dX6_count_49 (c0) rfl ?_
      refine R.get hc gf_X6_144_r dX6_count_52 (c1.obj) rfl ?_
      exact R.iret hc rfl dX6_count_55 ⟨rfl, rfl, ⟨c0, c1, c2, ⟨_, _, _, _, _, c3⟩, c4, ⟨_, c5⟩, c6, ⟨_, _, _, c7⟩, ⟨_, _, _, _, _, _, _, c8⟩⟩, hF⟩
    · refine R.tabIn (x := nI 1) (off := 55) (tgt := 56) hc dX6_count_1 (by decide) (by decide) (by decide) (by decide) ?_
      refine R.aload_n (j := 0) (i := 0) hc rfl rfl dX6_count_56 ?_
      refine R.get hc gf_X6_10_r dX6_count_57 (c0) rfl ?_
      refine R.get hc gf_X6_147_r dX6_count_60 (c1.obj) rfl ?_
      exact R.iret hc rfl dX6_count_63 ⟨rfl, rfl, ⟨c0, c1, c2, ⟨_, _, _, _, _, c3⟩, c4, ⟨_, c5⟩, c6, ⟨_, _, _, c7⟩, ⟨_, _, _, _, _, _, _, c8⟩⟩, hF⟩
    · refine R.tabIn (x := nI 2) (off := 63) (tgt := 64) hc dX6_count_1 (by decide) (by decide) (by decide) (by decide) ?_
      refine R.aload_n (j := 0) (i := 0) hc rfl rfl dX6_count_64 ?_
      refine R.get hc gf_X6_10_r dX6_count_65 (c0) rfl ?_
      refine R.get hc gf_X6_150_r dX6_count_68 (c1.obj) rfl ?_
      exact R.iret hc rfl dX6_count_71 ⟨rfl, rfl, ⟨c0, c1, c2, ⟨_, _, _, _, _, c3⟩, c4, ⟨_, c5⟩, c6, ⟨_, _, _, c7⟩, ⟨_, _, _, _, _, _, _, c8⟩⟩, hF⟩
    · refine R.tabIn (x := nI 3) (off := 71) (tgt := 72) hc dX6_count_1 (by decide) (by decide) (by decide) (by decide) ?_
      refine R.aload_n (j := 0) (i := 0) hc rfl rfl dX6_count_72 ?_
      refine R.get hc gf_X6_10_r dX6_count_73 (c0) rfl ?_
      refine R.cVr hc m_X4_depthOfAll lk_X6_153 dX6_count_76 (c_X4_depthOfAll l (d + 1) X n c1 hW) (c1.obj) rfl rfl rfl (by omega) ⟨Nat.le_refl _, Nat.le_refl _⟩ (Nat.le_of_ble_eq_true rfl) ?_
      exact R.iret hc rfl dX6_count_79 ⟨rfl, rfl, ⟨c0, c1, c2, ⟨_, _, _, _, _, c3⟩, c4, ⟨_, c5⟩, c6, ⟨_, _, _, c7⟩, ⟨_, _, _, _, _, _, _, c8⟩⟩, hF⟩
    · refine R.tabIn (x := nI 4) (off := 79) (tgt := 80) hc dX6_count_1 (by decide) (by decide) (by decide) (by decide) ?_
      refine R.aload_n (j := 0) (i := 0) hc rfl rfl dX6_count_80 ?_
      refine R.get hc gf_X6_10_r dX6_count_81 (c0) rfl ?_
      refine R.cVr hc m_X4_drySet lk_X6_102 dX6_count_84 (c_X4_drySet l d X n c1 hW) (c1.obj) rfl rfl rfl (by omega) ⟨Nat.le_refl _, Nat.le_refl _⟩ (Nat.le_of_ble_eq_true rfl) ?_
      exact R.iret hc rfl dX6_count_87 ⟨rfl, rfl, ⟨c0, c1, c2, ⟨_, _, _, _, _, c3⟩, c4, ⟨_, c5⟩, c6, ⟨_, _, _, c7⟩, ⟨_, _, _, _, _, _, _, c8⟩⟩, hF⟩
    · refine R.tabIn (x := nI 5) (off := 87) (tgt := 88) hc dX6_count_1 (by decide) (by decide) (by decide) (by decide) ?_
      refine R.aload_n (j := 0) (i := 0) hc rfl rfl dX6_count_88 ?_
      refine R.get hc gf_X6_10_r dX6_count_89 (c0) rfl ?_
      refine R.cVr hc m_X4_claimants lk_X6_156 dX6_count_92 (c_X4_claimants l d X n c1 hW) (c1.obj) rfl rfl rfl (by omega) ⟨Nat.le_refl _, Nat.le_refl _⟩ (Nat.le_of_ble_eq_true rfl) ?_
      exact R.iret hc rfl dX6_count_95 ⟨rfl, rfl, ⟨c0, c1, c2, ⟨_, _, _, _, _, c3⟩, c4, ⟨_, c5⟩, c6, ⟨_, _, _, c7⟩, ⟨_, _, _, _, _, _, _, c8⟩⟩, hF⟩
    · refine R.tabIn (x := nI 6) (off := 95) (tgt := 96) hc dX6_count_1 (by decide) (by decide) (by decide) (by decide) ?_
      refine R.aload_n (j := 0) (i := 0) hc rfl rfl dX6_count_96 ?_
      refine R.get hc gf_X6_10_r dX6_count_97 (c0) rfl ?_
      refine R.cVr hc m_X4_claimedSet lk_X6_159 dX6_count_100 (c_X4_claimedSet l d X n c1 hW) (c1.obj) rfl rfl rfl (by omega) ⟨Nat.le_refl _, Nat.le_refl _⟩ (Nat.le_of_ble_eq_true rfl) ?_
      exact R.iret hc rfl dX6_count_103 ⟨rfl, rfl, ⟨c0, c1, c2, ⟨_, _, _, _, _, c3⟩, c4, ⟨_, c5⟩, c6, ⟨_, _, _, c7⟩, ⟨_, _, _, _, _, _, _, c8⟩⟩, hF⟩
    · refine R.tabIn (x := nI 7) (off := 103) (tgt := 104) hc dX6_count_1 (by decide) (by decide) (by decide) (by decide) ?_
      refine R.aload_n (j := 0) (i := 0) hc rfl rfl dX6_count_104 ?_
      refine R.get hc gf_X6_19_r dX6_count_105 (c0) rfl ?_
      refine R.get hc gf_X6_162_r dX6_count_108 (p0) rfl ?_
      exact R.iret hc rfl dX6_count_111 ⟨rfl, rfl, ⟨c0, c1, c2, ⟨_, _, _, _, _, c3⟩, c4, ⟨_, c5⟩, c6, ⟨_, _, _, c7⟩, ⟨_, _, _, _, _, _, _, c8⟩⟩, hF⟩
set_option maxHeartbeats 4000000 in
set_option maxRecDepth 100000 in
theorem c_X6_rain (l : Launch) (d : Nat) (X : Nat × (Nat → Int32)) (n : Nat) {σ : Wd} {a : SA} {np nq hr dr : Nat} {hs : List SN} {im : IM} {tp : Nat → Nat} {tl : Nat} {ln sz : Nat → Nat} {it : Nat → Nat → Int64} (hC : CA σ a np nq hr dr hs im tp tl ln sz it) (hI : WI a np nq hr dr hs im tp tl ln sz) (x : Int32) : CN l yX6_rain cX6_rain 2 (some .int) ((d + 2)) X n [.ref 0, .int x] σ (fun v σ' => v = some (.int (s_rain a np x)) ∧ ((if inR x 1 60 = true then CA σ' (rainK a (tN x) np) np nq hr dr (remem hs (hr, dr, a)) im tp tl ln sz it else CA σ' a np nq hr dr hs im tp tl ln sz it) ∧ Eqo 0 42 σ σ')) := by
  refine CN.of (by decide) [some (.ref 0), some (.int x)] (fun _ => Nat.le_of_ble_eq_true rfl) (fun _ => rfl) (fun cx hc => ?_)
  obtain ⟨c0, c1, c2, ⟨xa, xp, xq, xh, xd, c3⟩, c4, ⟨xl, c5⟩, c6, ⟨xf, xg, xT, c7⟩, ⟨yd, yc, yb, yn, ys, yl, ym, c8⟩⟩ := hC
  obtain ⟨hW, hh, hdr, hwh, hwi, hU, hV⟩ := hI
  have hW1 := hW.1
  have hW2 := hW.2.1
  have hF : Eqo 0 42 σ σ := Eqo.rf
  refine R.iload_n (j := 1) (i := 1) hc rfl rfl dX6_rain_0 ?_
  refine R.iconst hc ic_1 dX6_rain_1 ?_
  refine R.bipush hc bp_60 dX6_rain_2 ?_
  refine R.cSr hc m_X6_within lk_X6_64 dX6_rain_4 (c_X6_within l (d + 1) X n _ _ _) rfl rfl (by omega) ⟨Nat.le_refl _, Nat.le_refl _⟩ (Nat.le_of_ble_eq_true rfl) ?_
  refine R.ifB_ne (tgt := 12) hc dX6_rain_7 (by decide) (fun q1 => ?_) (fun q1 => ?_)
  rotate_left
  · refine R.iconst hc ic_m1 dX6_rain_10 ?_
    have e9 : (-1) = s_rain a np x := by simp [s_rain, q1]
    exact R.iret hc rfl dX6_rain_11 ⟨rfl, congrArg (fun z => some (Value.int z)) e9, by rw [if_neg (by simp [q1])]; exact ⟨c0, c1, c2, ⟨_, _, _, _, _, c3⟩, c4, ⟨_, c5⟩, c6, ⟨_, _, _, c7⟩, ⟨_, _, _, _, _, _, _, c8⟩⟩, hF⟩
  obtain ⟨i1, rfl, _, g1, t1⟩ := inR_of (by decide) (by decide) q1
  have hA : s_rain a np (nI i1) = nI (sumN (rainK a i1 np 2) np) := by simp [s_rain, q1, t1]
  rw [hA, t1] at hc
  refine R.aload_n (j := 0) (i := 0) hc rfl rfl dX6_rain_12 ?_
  refine R.get hc gf_X6_19_r dX6_rain_13 (c0) rfl ?_
  refine R.aload_n (j := 0) (i := 0) hc rfl rfl dX6_rain_16 ?_
  refine R.get hc gf_X6_10_r dX6_rain_17 (c0) rfl ?_
  refine R.dVu hc m_X0_remember lk_X6_169 dX6_rain_20 (c_X0_remember l d X n c2 c1 hW1 hW2 (by omega)) (Hi.o c2) rfl rfl rfl (by omega) ⟨Nat.le_refl _, Nat.le_refl _⟩ (Nat.le_of_ble_eq_true rfl) (fun σ hX => ?_)
  obtain ⟨c2, hE⟩ := hX
  have c0 := (hE 0 (by omega)).trans c0
  have c1 := SX.ag c1 (fun j h1 h2 => hE j (by omega))
  have c3 := SX.ag c3 (fun j h1 h2 => hE j (by omega))
  have c4 := Im.ag c4 (fun j h1 h2 => hE j (by omega))
  have c5 := Tp.ag c5 (fun j h1 h2 => hE j (by omega))
  have c6 := Sh.ag c6 (fun j h1 h2 => hE j (by omega))
  have c7 := Mt.ag c7 (fun j h1 h2 => hE j (by omega))
  have c8 := Od.ag c8 (fun j h1 h2 => hE j (by omega))
  have hF : Eqo 0 42 _ σ := fun j hj => (hE j (by omega)).trans (hF j hj)
  refine R.aload_n (j := 0) (i := 0) hc rfl rfl dX6_rain_23 ?_
  refine R.get hc gf_X6_10_r dX6_rain_24 (c0) rfl ?_
  refine R.iload_n (j := 1) (i := 1) hc rfl rfl dX6_rain_27 ?_
  refine R.cVu hc m_X4_deepen lk_X6_172 dX6_rain_28 (c_X4_deepen l d X n c1 hW (by omega)) (c1.obj) rfl rfl rfl (by omega) ⟨Nat.le_refl _, Nat.le_refl _⟩ (Nat.le_of_ble_eq_true rfl) (fun σ hX => ?_)
  obtain ⟨c1, hE⟩ := hX
  have c0 := (hE 0 (by omega)).trans c0
  have c2 := Hi.ag c2 (fun j h1 h2 => hE j (by omega))
  have c3 := SX.ag c3 (fun j h1 h2 => hE j (by omega))
  have c4 := Im.ag c4 (fun j h1 h2 => hE j (by omega))
  have c5 := Tp.ag c5 (fun j h1 h2 => hE j (by omega))
  have c6 := Sh.ag c6 (fun j h1 h2 => hE j (by omega))
  have c7 := Mt.ag c7 (fun j h1 h2 => hE j (by omega))
  have c8 := Od.ag c8 (fun j h1 h2 => hE j (by omega))
  have hF : Eqo 0 42 _ σ := fun j hj => (hE j (by omega)).trans (hF j hj)
  refine R.aload_n (j := 0) (i := 0) hc rfl rfl dX6_rain_31 ?_
  refine R.get hc gf_X6_10_r dX6_rain_32 (c0) rfl ?_
  refine R.cVr hc m_X4_depthOfAll lk_X6_153 dX6_rain_35 (c_X4_depthOfAll l (d + 1) X n c1 (WF_rainK hW)) (c1.obj) rfl rfl rfl (by omega) ⟨Nat.le_refl _, Nat.le_refl _⟩ (Nat.le_of_ble_eq_true rfl) ?_
  exact R.iret hc rfl dX6_rain_38 ⟨rfl, rfl, by rw [if_pos q1]; exact ⟨c0, c1, c2, ⟨_, _, _, _, _, c3⟩, c4, ⟨_, c5⟩, c6, ⟨_, _, _, c7⟩, ⟨_, _, _, _, _, _, _, c8⟩⟩, hF⟩
set_option maxHeartbeats 4000000 in
set_option maxRecDepth 100000 in
theorem c_X6_drive (l : Launch) (d : Nat) (X : Nat × (Nat → Int32)) (n : Nat) {σ : Wd} {a : SA} {np nq hr dr : Nat} {hs : List SN} {im : IM} {tp : Nat → Nat} {tl : Nat} {ln sz : Nat → Nat} {it : Nat → Nat → Int64} (hC : CA σ a np nq hr dr hs im tp tl ln sz it) (hI : WI a np nq hr dr hs im tp tl ln sz) (p : Int32) : CN l yX6_drive cX6_drive 2 (some .int) ((d + 2)) X n [.ref 0, .int p] σ (fun v σ' => v = some (.int (s_drive a np p)) ∧ ((if okD a np p = true then CA σ' (a2 a 2 (tN p) (a 2 (tN p) / 2)) np nq hr dr (remem hs (hr, dr, a)) im tp tl ln sz it else CA σ' a np nq hr dr hs im tp tl ln sz it) ∧ Eqo 0 42 σ σ')) := by
  refine CN.of (by decide) [some (.ref 0), some (.int p)] (fun _ => Nat.le_of_ble_eq_true rfl) (fun _ => rfl) (fun cx hc => ?_)
  obtain ⟨c0, c1, c2, ⟨xa, xp, xq, xh, xd, c3⟩, c4, ⟨xl, c5⟩, c6, ⟨xf, xg, xT, c7⟩, ⟨yd, yc, yb, yn, ys, yl, ym, c8⟩⟩ := hC
  obtain ⟨hW, hh, hdr, hwh, hwi, hU, hV⟩ := hI
  have hW1 := hW.1
  have hW2 := hW.2.1
  have hF : Eqo 0 42 σ σ := Eqo.rf
  refine R.aload_n (j := 0) (i := 0) hc rfl rfl dX6_drive_0 ?_
  refine R.get hc gf_X6_10_r dX6_drive_1 (c0) rfl ?_
  refine R.iload_n (j := 1) (i := 1) hc rfl rfl dX6_drive_4 ?_
  refine R.cVr hc m_X4_hasPuddle lk_X6_85 dX6_drive_5 (c_X4_hasPuddle l (d + 1) X n c1 hW _) (c1.obj) rfl rfl rfl (by omega) ⟨Nat.le_refl _, Nat.le_refl _⟩ (Nat.le_of_ble_eq_true rfl) ?_
  refine R.ifB_ne (tgt := 13) hc dX6_drive_8 (by decide) (fun q1 => ?_) (fun q1 => ?_)
  rotate_left
  · refine R.iconst hc ic_m1 dX6_drive_11 ?_
    have e9 : (-1) = s_drive a np p := by simp [s_drive, q1]
    exact R.iret hc rfl dX6_drive_12 ⟨rfl, congrArg (fun z => some (Value.int z)) e9, by rw [if_neg (by simp [okD, q1])]; exact ⟨c0, c1, c2, ⟨_, _, _, _, _, c3⟩, c4, ⟨_, c5⟩, c6, ⟨_, _, _, c7⟩, ⟨_, _, _, _, _, _, _, c8⟩⟩, hF⟩
  obtain ⟨i1, rfl, g1, t1⟩ := inI_tN (by omega) q1
  refine R.aload_n (j := 0) (i := 0) hc rfl rfl dX6_drive_13 ?_
  refine R.get hc gf_X6_10_r dX6_drive_14 (c0) rfl ?_
  refine R.iload_n (j := 1) (i := 1) hc rfl rfl dX6_drive_17 ?_
  refine R.cVr hc m_X4_isDry lk_X6_176 dX6_drive_18 (c_X4_isDry l (d + 1) X n c1 hW (by omega)) (c1.obj) rfl rfl rfl (by omega) ⟨Nat.le_refl _, Nat.le_refl _⟩ (Nat.le_of_ble_eq_true rfl) ?_
  refine R.ifB_eq (tgt := 27) hc dX6_drive_21 (by decide) (fun q2 => ?_) (fun q2 => ?_)
  rotate_left
  · refine R.bipush hc bp_m2 dX6_drive_24 ?_
    have e9 : (-2) = s_drive a np (nI i1) := by simp [s_drive, q1, t1, q2]
    exact R.iret hc rfl dX6_drive_26 ⟨rfl, congrArg (fun z => some (Value.int z)) e9, by rw [if_neg (by simp [okD, t1, q2])]; exact ⟨c0, c1, c2, ⟨_, _, _, _, _, c3⟩, c4, ⟨_, c5⟩, c6, ⟨_, _, _, c7⟩, ⟨_, _, _, _, _, _, _, c8⟩⟩, hF⟩
  have hok : okD a np (nI i1) = true := by simp [okD, q1, t1, q2]
  have hA : s_drive a np (nI i1) = nI (a 2 i1 / 2) := by simp [s_drive, q1, t1, q2]
  rw [hA, t1] at hc
  refine R.aload_n (j := 0) (i := 0) hc rfl rfl dX6_drive_27 ?_
  refine R.get hc gf_X6_19_r dX6_drive_28 (c0) rfl ?_
  refine R.aload_n (j := 0) (i := 0) hc rfl rfl dX6_drive_31 ?_
  refine R.get hc gf_X6_10_r dX6_drive_32 (c0) rfl ?_
  refine R.dVu hc m_X0_remember lk_X6_169 dX6_drive_35 (c_X0_remember l d X n c2 c1 hW1 hW2 (by omega)) (Hi.o c2) rfl rfl rfl (by omega) ⟨Nat.le_refl _, Nat.le_refl _⟩ (Nat.le_of_ble_eq_true rfl) (fun σ hX => ?_)
  obtain ⟨c2, hE⟩ := hX
  have c0 := (hE 0 (by omega)).trans c0
  have c1 := SX.ag c1 (fun j h1 h2 => hE j (by omega))
  have c3 := SX.ag c3 (fun j h1 h2 => hE j (by omega))
  have c4 := Im.ag c4 (fun j h1 h2 => hE j (by omega))
  have c5 := Tp.ag c5 (fun j h1 h2 => hE j (by omega))
  have c6 := Sh.ag c6 (fun j h1 h2 => hE j (by omega))
  have c7 := Mt.ag c7 (fun j h1 h2 => hE j (by omega))
  have c8 := Od.ag c8 (fun j h1 h2 => hE j (by omega))
  have hF : Eqo 0 42 _ σ := fun j hj => (hE j (by omega)).trans (hF j hj)
  refine R.aload_n (j := 0) (i := 0) hc rfl rfl dX6_drive_38 ?_
  refine R.get hc gf_X6_10_r dX6_drive_39 (c0) rfl ?_
  refine R.iload_n (j := 1) (i := 1) hc rfl rfl dX6_drive_42 ?_
  refine R.cVu hc m_X4_halve lk_X6_179 dX6_drive_43 (c_X4_halve l (d + 1) X n c1 hW (by omega)) (c1.obj) rfl rfl rfl (by omega) ⟨Nat.le_refl _, Nat.le_refl _⟩ (Nat.le_of_ble_eq_true rfl) (fun σ hX => ?_)
  obtain ⟨c1, hE⟩ := hX
  have c0 := (hE 0 (by omega)).trans c0
  have c2 := Hi.ag c2 (fun j h1 h2 => hE j (by omega))
  have c3 := SX.ag c3 (fun j h1 h2 => hE j (by omega))
  have c4 := Im.ag c4 (fun j h1 h2 => hE j (by omega))
  have c5 := Tp.ag c5 (fun j h1 h2 => hE j (by omega))
  have c6 := Sh.ag c6 (fun j h1 h2 => hE j (by omega))
  have c7 := Mt.ag c7 (fun j h1 h2 => hE j (by omega))
  have c8 := Od.ag c8 (fun j h1 h2 => hE j (by omega))
  have hF : Eqo 0 42 _ σ := fun j hj => (hE j (by omega)).trans (hF j hj)
  refine R.aload_n (j := 0) (i := 0) hc rfl rfl dX6_drive_46 ?_
  refine R.get hc gf_X6_10_r dX6_drive_47 (c0) rfl ?_
  refine R.get hc gf_X6_95 dX6_drive_50 (c1.obj) rfl ?_
  refine R.iload_n (j := 1) (i := 1) hc rfl rfl dX6_drive_53 ?_
  refine R.ialdE hc dX6_drive_54 (c1.r2 (by omega)) (by omega) (by decide) ?_
  rw [a2_s]
  exact R.iret hc rfl dX6_drive_55 ⟨rfl, rfl, by rw [if_pos hok]; exact ⟨c0, c1, c2, ⟨_, _, _, _, _, c3⟩, c4, ⟨_, c5⟩, c6, ⟨_, _, _, c7⟩, ⟨_, _, _, _, _, _, _, c8⟩⟩, hF⟩
set_option maxHeartbeats 4000000 in
set_option maxRecDepth 100000 in
theorem c_X6_send (l : Launch) (d : Nat) (X : Nat × (Nat → Int32)) (n : Nat) {σ : Wd} {a : SA} {np nq hr dr : Nat} {hs : List SN} {im : IM} {tp : Nat → Nat} {tl : Nat} {ln sz : Nat → Nat} {it : Nat → Nat → Int64} (hC : CA σ a np nq hr dr hs im tp tl ln sz it) (hI : WI a np nq hr dr hs im tp tl ln sz) (p : Int32) : CN l yX6_send cX6_send 3 (some .int) ((d + 2)) X n [.ref 0, .int p] σ (fun v σ' => v = some (.int (s_send a nq p)) ∧ ((if okN a nq p = true then CA σ' (a2 a 6 (tN p) 0) np nq hr dr (remem hs (hr, dr, a)) im tp tl ln sz it else CA σ' a np nq hr dr hs im tp tl ln sz it) ∧ Eqo 0 42 σ σ')) := by
  refine CN.of (by decide) [some (.ref 0), some (.int p), none] (fun _ => Nat.le_of_ble_eq_true rfl) (fun _ => rfl) (fun cx hc => ?_)
  obtain ⟨c0, c1, c2, ⟨xa, xp, xq, xh, xd, c3⟩, c4, ⟨xl, c5⟩, c6, ⟨xf, xg, xT, c7⟩, ⟨yd, yc, yb, yn, ys, yl, ym, c8⟩⟩ := hC
  obtain ⟨hW, hh, hdr, hwh, hwi, hU, hV⟩ := hI
  have hW1 := hW.1
  have hW2 := hW.2.1
  have hF : Eqo 0 42 σ σ := Eqo.rf
  refine R.aload_n (j := 0) (i := 0) hc rfl rfl dX6_send_0 ?_
  refine R.get hc gf_X6_10_r dX6_send_1 (c0) rfl ?_
  refine R.iload_n (j := 1) (i := 1) hc rfl rfl dX6_send_4 ?_
  refine R.cVr hc m_X4_hasPerson lk_X6_110 dX6_send_5 (c_X4_hasPerson l (d + 1) X n c1 hW _) (c1.obj) rfl rfl rfl (by omega) ⟨Nat.le_refl _, Nat.le_refl _⟩ (Nat.le_of_ble_eq_true rfl) ?_
  refine R.ifB_ne (tgt := 13) hc dX6_send_8 (by decide) (fun q1 => ?_) (fun q1 => ?_)
  rotate_left
  · refine R.iconst hc ic_m1 dX6_send_11 ?_
    have e9 : (-1) = s_send a nq p := by simp [s_send, q1]
    exact R.iret hc rfl dX6_send_12 ⟨rfl, congrArg (fun z => some (Value.int z)) e9, by rw [if_neg (by simp [okN, q1])]; exact ⟨c0, c1, c2, ⟨_, _, _, _, _, c3⟩, c4, ⟨_, c5⟩, c6, ⟨_, _, _, c7⟩, ⟨_, _, _, _, _, _, _, c8⟩⟩, hF⟩
  obtain ⟨i1, rfl, g1, t1⟩ := inI_tN (by omega) q1
  refine R.aload_n (j := 0) (i := 0) hc rfl rfl dX6_send_13 ?_
  refine R.get hc gf_X6_10_r dX6_send_14 (c0) rfl ?_
  refine R.iload_n (j := 1) (i := 1) hc rfl rfl dX6_send_17 ?_
  refine R.cVr hc m_X4_hasClaimed lk_X6_182 dX6_send_18 (c_X4_hasClaimed l (d + 1) X n c1 hW (by omega)) (c1.obj) rfl rfl rfl (by omega) ⟨Nat.le_refl _, Nat.le_refl _⟩ (Nat.le_of_ble_eq_true rfl) ?_
  refine R.ifB_ne (tgt := 27) hc dX6_send_21 (by decide) (fun q2 => ?_) (fun q2 => ?_)
  rotate_left
  · refine R.bipush hc bp_m2 dX6_send_24 ?_
    have e9 : (-2) = s_send a nq (nI i1) := by simp [s_send, q1, t1, q2]
    exact R.iret hc rfl dX6_send_26 ⟨rfl, congrArg (fun z => some (Value.int z)) e9, by rw [if_neg (by simp [okN, t1, q2])]; exact ⟨c0, c1, c2, ⟨_, _, _, _, _, c3⟩, c4, ⟨_, c5⟩, c6, ⟨_, _, _, c7⟩, ⟨_, _, _, _, _, _, _, c8⟩⟩, hF⟩
  have hok : okN a nq (nI i1) = true := by simp [okN, q1, t1, q2]
  have hA : s_send a nq (nI i1) = cI (a 6 i1) := by simp [s_send, q1, t1, q2]
  rw [hA, t1] at hc
  refine R.aload_n (j := 0) (i := 0) hc rfl rfl dX6_send_27 ?_
  refine R.get hc gf_X6_19_r dX6_send_28 (c0) rfl ?_
  refine R.aload_n (j := 0) (i := 0) hc rfl rfl dX6_send_31 ?_
  refine R.get hc gf_X6_10_r dX6_send_32 (c0) rfl ?_
  refine R.dVu hc m_X0_remember lk_X6_169 dX6_send_35 (c_X0_remember l d X n c2 c1 hW1 hW2 (by omega)) (Hi.o c2) rfl rfl rfl (by omega) ⟨Nat.le_refl _, Nat.le_refl _⟩ (Nat.le_of_ble_eq_true rfl) (fun σ hX => ?_)
  obtain ⟨c2, hE⟩ := hX
  have c0 := (hE 0 (by omega)).trans c0
  have c1 := SX.ag c1 (fun j h1 h2 => hE j (by omega))
  have c3 := SX.ag c3 (fun j h1 h2 => hE j (by omega))
  have c4 := Im.ag c4 (fun j h1 h2 => hE j (by omega))
  have c5 := Tp.ag c5 (fun j h1 h2 => hE j (by omega))
  have c6 := Sh.ag c6 (fun j h1 h2 => hE j (by omega))
  have c7 := Mt.ag c7 (fun j h1 h2 => hE j (by omega))
  have c8 := Od.ag c8 (fun j h1 h2 => hE j (by omega))
  have hF : Eqo 0 42 _ σ := fun j hj => (hE j (by omega)).trans (hF j hj)
  refine R.aload_n (j := 0) (i := 0) hc rfl rfl dX6_send_38 ?_
  refine R.get hc gf_X6_10_r dX6_send_39 (c0) rfl ?_
  refine R.get hc gf_X6_122 dX6_send_42 (c1.obj) rfl ?_
  refine R.iload_n (j := 1) (i := 1) hc rfl rfl dX6_send_45 ?_
  refine R.ialdE hc dX6_send_46 (c1.r6 (by omega)) (by omega) (by decide) ?_
  refine R.istn2 hc dX6_send_47 (by decide) rfl ?_
  refine R.aload_n (j := 0) (i := 0) hc rfl rfl dX6_send_48 ?_
  refine R.get hc gf_X6_10_r dX6_send_49 (c0) rfl ?_
  refine R.get hc gf_X6_122 dX6_send_52 (c1.obj) rfl ?_
  refine R.iload_n (j := 1) (i := 1) hc rfl rfl dX6_send_55 ?_
  refine R.bipush hc bp_m4 dX6_send_56 ?_
  refine R.iastW hc dX6_send_58 (c1.w6 _ 0) (by omega) (by decide) (fun σ hX => ?_)
  obtain ⟨c1, hE⟩ := hX
  have c0 := (hE 0 (by omega)).trans c0
  have c2 := Hi.ag c2 (fun j h1 h2 => hE j (by omega))
  have c3 := SX.ag c3 (fun j h1 h2 => hE j (by omega))
  have c4 := Im.ag c4 (fun j h1 h2 => hE j (by omega))
  have c5 := Tp.ag c5 (fun j h1 h2 => hE j (by omega))
  have c6 := Sh.ag c6 (fun j h1 h2 => hE j (by omega))
  have c7 := Mt.ag c7 (fun j h1 h2 => hE j (by omega))
  have c8 := Od.ag c8 (fun j h1 h2 => hE j (by omega))
  have hF : Eqo 0 42 _ σ := fun j hj => (hE j (by omega)).trans (hF j hj)
  refine R.iload_n (j := 2) (i := 2) hc rfl rfl dX6_send_59 ?_
  exact R.iret hc rfl dX6_send_60 ⟨rfl, rfl, by rw [if_pos hok]; exact ⟨c0, c1, c2, ⟨_, _, _, _, _, c3⟩, c4, ⟨_, c5⟩, c6, ⟨_, _, _, c7⟩, ⟨_, _, _, _, _, _, _, c8⟩⟩, hF⟩
set_option maxHeartbeats 4000000 in
set_option maxRecDepth 100000 in
theorem c_X6_later (l : Launch) (d : Nat) (X : Nat × (Nat → Int32)) (n : Nat) {σ : Wd} {a : SA} {np nq hr dr : Nat} {hs : List SN} {im : IM} {tp : Nat → Nat} {tl : Nat} {ln sz : Nat → Nat} {it : Nat → Nat → Int64} (hC : CA σ a np nq hr dr hs im tp tl ln sz it) (hI : WI a np nq hr dr hs im tp tl ln sz) (p x : Int32) : CN l yX6_later cX6_later 4 (some .int) ((d + 2)) X n [.ref 0, .int p, .int x] σ (fun v σ' => v = some (.int (s_later a nq p x)) ∧ ((if okL a nq p x = true then CA σ' (a2 a 4 (tN p) (tN x)) np nq hr dr (remem hs (hr, dr, a)) im tp tl ln sz it else CA σ' a np nq hr dr hs im tp tl ln sz it) ∧ Eqo 0 42 σ σ')) := by
  refine CN.of (by decide) [some (.ref 0), some (.int p), some (.int x), none] (fun _ => Nat.le_of_ble_eq_true rfl) (fun _ => rfl) (fun cx hc => ?_)
  obtain ⟨c0, c1, c2, ⟨xa, xp, xq, xh, xd, c3⟩, c4, ⟨xl, c5⟩, c6, ⟨xf, xg, xT, c7⟩, ⟨yd, yc, yb, yn, ys, yl, ym, c8⟩⟩ := hC
  obtain ⟨hW, hh, hdr, hwh, hwi, hU, hV⟩ := hI
  have hW1 := hW.1
  have hW2 := hW.2.1
  have hF : Eqo 0 42 σ σ := Eqo.rf
  refine R.aload_n (j := 0) (i := 0) hc rfl rfl dX6_later_0 ?_
  refine R.get hc gf_X6_10_r dX6_later_1 (c0) rfl ?_
  refine R.iload_n (j := 1) (i := 1) hc rfl rfl dX6_later_4 ?_
  refine R.cVr hc m_X4_hasPerson lk_X6_110 dX6_later_5 (c_X4_hasPerson l (d + 1) X n c1 hW _) (c1.obj) rfl rfl rfl (by omega) ⟨Nat.le_refl _, Nat.le_refl _⟩ (Nat.le_of_ble_eq_true rfl) ?_
  refine R.ifB_eq (tgt := 18) hc dX6_later_8 (by decide) (fun q1 => ?_) (fun q1 => ?_)
  · refine R.iconst hc ic_m1 dX6_later_18 ?_
    have e9 : (-1) = s_later a nq p x := by simp [s_later, q1]
    exact R.iret hc rfl dX6_later_19 ⟨rfl, congrArg (fun z => some (Value.int z)) e9, by rw [if_neg (by simp [okL, q1])]; exact ⟨c0, c1, c2, ⟨_, _, _, _, _, c3⟩, c4, ⟨_, c5⟩, c6, ⟨_, _, _, c7⟩, ⟨_, _, _, _, _, _, _, c8⟩⟩, hF⟩
  refine R.iload_n (j := 2) (i := 2) hc rfl rfl dX6_later_11 ?_
  refine R.cSr hc m_X6_isComing lk_X6_79 dX6_later_12 (c_X6_isComing l d X n _) rfl rfl (by omega) ⟨Nat.le_refl _, Nat.le_refl _⟩ (Nat.le_of_ble_eq_true rfl) ?_
  refine R.ifB_ne (tgt := 20) hc dX6_later_15 (by decide) (fun q2 => ?_) (fun q2 => ?_)
  rotate_left
  · refine R.iconst hc ic_m1 dX6_later_18 ?_
    have e9 : (-1) = s_later a nq p x := by simp [s_later, q2]
    exact R.iret hc rfl dX6_later_19 ⟨rfl, congrArg (fun z => some (Value.int z)) e9, by rw [if_neg (by simp [okL, q2])]; exact ⟨c0, c1, c2, ⟨_, _, _, _, _, c3⟩, c4, ⟨_, c5⟩, c6, ⟨_, _, _, c7⟩, ⟨_, _, _, _, _, _, _, c8⟩⟩, hF⟩
  obtain ⟨i1, rfl, g1, t1⟩ := inI_tN (by omega) q1
  obtain ⟨i2, rfl, _, g2, t2⟩ := inR_of (by decide) (by decide) q2
  have hq3 := hW.2.2.2.1 i1 g1
  refine R.aload_n (j := 0) (i := 0) hc rfl rfl dX6_later_20 ?_
  refine R.get hc gf_X6_10_r dX6_later_21 (c0) rfl ?_
  refine R.get hc gf_X6_116 dX6_later_24 (c1.obj) rfl ?_
  refine R.iload_n (j := 1) (i := 1) hc rfl rfl dX6_later_27 ?_
  refine R.ialdE hc dX6_later_28 (c1.r4 (by omega)) (by omega) (by decide) ?_
  refine R.iload_n (j := 2) (i := 2) hc rfl rfl dX6_later_29 ?_
  refine R.icmpN_ne (tgt := 36) hc dX6_later_30 (by decide) (by omega) (by omega) (fun q3 => ?_) (fun q3 => ?_)
  rotate_left
  · refine R.bipush hc bp_m2 dX6_later_33 ?_
    have e9 : (-2) = s_later a nq (nI i1) (nI i2) := by simp [s_later, q1, q2, t1, t2, q3]
    exact R.iret hc rfl dX6_later_35 ⟨rfl, congrArg (fun z => some (Value.int z)) e9, by rw [if_neg (by simp [okL, t1, t2, q3])]; exact ⟨c0, c1, c2, ⟨_, _, _, _, _, c3⟩, c4, ⟨_, c5⟩, c6, ⟨_, _, _, c7⟩, ⟨_, _, _, _, _, _, _, c8⟩⟩, hF⟩
  have hok : okL a nq (nI i1) (nI i2) = true := by simp [okL, q1, q2, t1, t2, q3]
  have hA : s_later a nq (nI i1) (nI i2) = nI (a 4 i1) := by simp [s_later, q1, q2, t1, t2, q3]
  rw [hA, t1, t2] at hc
  refine R.aload_n (j := 0) (i := 0) hc rfl rfl dX6_later_36 ?_
  refine R.get hc gf_X6_19_r dX6_later_37 (c0) rfl ?_
  refine R.aload_n (j := 0) (i := 0) hc rfl rfl dX6_later_40 ?_
  refine R.get hc gf_X6_10_r dX6_later_41 (c0) rfl ?_
  refine R.dVu hc m_X0_remember lk_X6_169 dX6_later_44 (c_X0_remember l d X n c2 c1 hW1 hW2 (by omega)) (Hi.o c2) rfl rfl rfl (by omega) ⟨Nat.le_refl _, Nat.le_refl _⟩ (Nat.le_of_ble_eq_true rfl) (fun σ hX => ?_)
  obtain ⟨c2, hE⟩ := hX
  have c0 := (hE 0 (by omega)).trans c0
  have c1 := SX.ag c1 (fun j h1 h2 => hE j (by omega))
  have c3 := SX.ag c3 (fun j h1 h2 => hE j (by omega))
  have c4 := Im.ag c4 (fun j h1 h2 => hE j (by omega))
  have c5 := Tp.ag c5 (fun j h1 h2 => hE j (by omega))
  have c6 := Sh.ag c6 (fun j h1 h2 => hE j (by omega))
  have c7 := Mt.ag c7 (fun j h1 h2 => hE j (by omega))
  have c8 := Od.ag c8 (fun j h1 h2 => hE j (by omega))
  have hF : Eqo 0 42 _ σ := fun j hj => (hE j (by omega)).trans (hF j hj)
  refine R.aload_n (j := 0) (i := 0) hc rfl rfl dX6_later_47 ?_
  refine R.get hc gf_X6_10_r dX6_later_48 (c0) rfl ?_
  refine R.get hc gf_X6_116 dX6_later_51 (c1.obj) rfl ?_
  refine R.iload_n (j := 1) (i := 1) hc rfl rfl dX6_later_54 ?_
  refine R.ialdE hc dX6_later_55 (c1.r4 (by omega)) (by omega) (by decide) ?_
  refine R.istn3 hc dX6_later_56 (by decide) rfl ?_
  refine R.aload_n (j := 0) (i := 0) hc rfl rfl dX6_later_57 ?_
  refine R.get hc gf_X6_10_r dX6_later_58 (c0) rfl ?_
  refine R.get hc gf_X6_116 dX6_later_61 (c1.obj) rfl ?_
  refine R.iload_n (j := 1) (i := 1) hc rfl rfl dX6_later_64 ?_
  refine R.iload_n (j := 2) (i := 2) hc rfl rfl dX6_later_65 ?_
  refine R.iastW hc dX6_later_66 (c1.w4 _ _) (by omega) (by decide) (fun σ hX => ?_)
  obtain ⟨c1, hE⟩ := hX
  have c0 := (hE 0 (by omega)).trans c0
  have c2 := Hi.ag c2 (fun j h1 h2 => hE j (by omega))
  have c3 := SX.ag c3 (fun j h1 h2 => hE j (by omega))
  have c4 := Im.ag c4 (fun j h1 h2 => hE j (by omega))
  have c5 := Tp.ag c5 (fun j h1 h2 => hE j (by omega))
  have c6 := Sh.ag c6 (fun j h1 h2 => hE j (by omega))
  have c7 := Mt.ag c7 (fun j h1 h2 => hE j (by omega))
  have c8 := Od.ag c8 (fun j h1 h2 => hE j (by omega))
  have hF : Eqo 0 42 _ σ := fun j hj => (hE j (by omega)).trans (hF j hj)
  refine R.iload_n (j := 3) (i := 3) hc rfl rfl dX6_later_67 ?_
  exact R.iret hc rfl dX6_later_68 ⟨rfl, rfl, by rw [if_pos hok]; exact ⟨c0, c1, c2, ⟨_, _, _, _, _, c3⟩, c4, ⟨_, c5⟩, c6, ⟨_, _, _, c7⟩, ⟨_, _, _, _, _, _, _, c8⟩⟩, hF⟩
set_option maxHeartbeats 4000000 in
set_option maxRecDepth 100000 in
theorem c_X6_seed (l : Launch) (d : Nat) (X : Nat × (Nat → Int32)) (n : Nat) {σ : Wd} {a : SA} {np nq hr dr : Nat} {hs : List SN} {im : IM} {tp : Nat → Nat} {tl : Nat} {ln sz : Nat → Nat} {it : Nat → Nat → Int64} (hC : CA σ a np nq hr dr hs im tp tl ln sz it) (hI : WI a np nq hr dr hs im tp tl ln sz) (v : Int32) : CN l yX6_seed cX6_seed 3 (some .int) (d) X n [.ref 0, .int v] σ (fun r σ' => r = some (.int (s_seed dr v)) ∧ ((if ¬ v < 0 then CA σ' a np nq hr (tN v) hs im tp tl ln sz it else CA σ' a np nq hr dr hs im tp tl ln sz it) ∧ Eqo 0 42 σ σ')) := by
  refine CN.of (by decide) [some (.ref 0), some (.int v), none] (fun _ => Nat.le_of_ble_eq_true rfl) (fun _ => rfl) (fun cx hc => ?_)
  obtain ⟨c0, c1, c2, ⟨xa, xp, xq, xh, xd, c3⟩, c4, ⟨xl, c5⟩, c6, ⟨xf, xg, xT, c7⟩, ⟨yd, yc, yb, yn, ys, yl, ym, c8⟩⟩ := hC
  obtain ⟨hW, hh, hdr, hwh, hwi, hU, hV⟩ := hI
  have hW1 := hW.1
  have hW2 := hW.2.1
  have hF : Eqo 0 42 σ σ := Eqo.rf
  refine R.iload_n (j := 1) (i := 1) hc rfl rfl dX6_seed_0 ?_
  refine R.if_ge (tgt := 6) hc dX6_seed_1 (by decide) (fun q1 => ?_) (fun q1 => ?_)
  rotate_left
  · have q1 : v < 0 := Int32.not_le.mp q1
    refine R.iconst hc ic_m1 dX6_seed_4 ?_
    have e9 : (-1) = s_seed dr v := by simp [s_seed, q1]
    exact R.iret hc rfl dX6_seed_5 ⟨rfl, congrArg (fun z => some (Value.int z)) e9, by rw [if_neg (by exact fun z => z q1)]; exact ⟨c0, c1, c2, ⟨_, _, _, _, _, c3⟩, c4, ⟨_, c5⟩, c6, ⟨_, _, _, c7⟩, ⟨_, _, _, _, _, _, _, c8⟩⟩, hF⟩
  have q1 : ¬ v < 0 := Int32.not_lt.mpr q1
  obtain ⟨j, hj, rfl⟩ := nI_of q1
  have hA : s_seed dr (nI j) = nI dr := by simp [s_seed, q1]
  rw [hA, tN_nI hj] at hc
  refine R.aload_n (j := 0) (i := 0) hc rfl rfl dX6_seed_6 ?_
  refine R.get hc gf_X6_10_r dX6_seed_7 (c0) rfl ?_
  refine R.get hc gf_X6_136_r dX6_seed_10 (c1.obj) rfl ?_
  refine R.istn2 hc dX6_seed_13 (by decide) rfl ?_
  refine R.aload_n (j := 0) (i := 0) hc rfl rfl dX6_seed_14 ?_
  refine R.get hc gf_X6_10_r dX6_seed_15 (c0) rfl ?_
  refine R.iload_n (j := 1) (i := 1) hc rfl rfl dX6_seed_18 ?_
  refine R.putW hc gf_X6_136 dX6_seed_19 (c1.p10 _) (fun _ => rfl) (fun _ => rfl) (fun σ hX => ?_)
  obtain ⟨c1, hE⟩ := hX
  have c0 := (hE 0 (by omega)).trans c0
  have c2 := Hi.ag c2 (fun j h1 h2 => hE j (by omega))
  have c3 := SX.ag c3 (fun j h1 h2 => hE j (by omega))
  have c4 := Im.ag c4 (fun j h1 h2 => hE j (by omega))
  have c5 := Tp.ag c5 (fun j h1 h2 => hE j (by omega))
  have c6 := Sh.ag c6 (fun j h1 h2 => hE j (by omega))
  have c7 := Mt.ag c7 (fun j h1 h2 => hE j (by omega))
  have c8 := Od.ag c8 (fun j h1 h2 => hE j (by omega))
  have hF : Eqo 0 42 _ σ := fun j hj => (hE j (by omega)).trans (hF j hj)
  refine R.iload_n (j := 2) (i := 2) hc rfl rfl dX6_seed_22 ?_
  exact R.iret hc rfl dX6_seed_23 ⟨rfl, rfl, by rw [if_pos q1]; exact ⟨c0, c1, c2, ⟨_, _, _, _, _, c3⟩, c4, ⟨_, c5⟩, c6, ⟨_, _, _, c7⟩, ⟨_, _, _, _, _, _, _, c8⟩⟩, hF⟩
