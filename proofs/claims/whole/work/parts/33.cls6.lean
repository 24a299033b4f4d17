/-- the best order, as the search has it -/
def ordC (a : SA) (np nq hr w : Nat) : OS := ch (fndS a np w (fun k p => lsN a np hr k 2 p)) nq (pop (wtS a nq)) (pop (wtS a nq)) (wtS a nq) (clS a nq) (pop (bsN (hasC a) nq)) (fun _ => 0, fun _ => 0, 0)
def ordV (a : SA) (np nq hr w : Nat) (o : Nat → Nat) : Nat := (vlo (fndS a np w (fun k p => lsN a np hr k 2 p)) o (clS a nq, pop (bsN (hasC a) nq)) (pop (wtS a nq))).2
def s_order (a : SA) (np nq hr : Nat) (w k : Int32) : Int32 := if inR w 1 30 && decide ((-1) ≤ k) then (if k = (-1) then lnI (ordC a np nq hr (tN w)).2.2 else if inI k (pop (wtS a nq)) then nI ((ordC a np nq hr (tN w)).2.1 (tN k)) else -4) else -1
theorem wtS_lt2 {a : SA} {nq : Nat} : wtS a nq < 2 ^ nq := by
  have h3 : 0 < 2 ^ nq := Nat.two_pow_pos nq
  exact Nat.lt_of_le_of_lt Nat.and_le_left (by omega)
theorem rk_wtS {a : SA} {nq : Nat} (h : nq ≤ 6) : rk (wtS a nq) nq = pop (wtS a nq) := by
  rw [← rk_pop _ (wtS_lt h), show 6 = nq + (6 - nq) by omega]
  exact (rk_top nq (6 - nq) wtS_lt2).symm
theorem ord_ch {a : SA} {np nq hr w : Nat} (hq : nq ≤ 6) (c bs : Nat → Nat) : Bst (wtS a nq) (pop (wtS a nq)) (ordV a np nq hr w) (pop (wtS a nq) ^ pop (wtS a nq)) (ch (fndS a np w (fun k p => lsN a np hr k 2 p)) nq (pop (wtS a nq)) (pop (wtS a nq)) (wtS a nq) (clS a nq) (pop (bsN (hasC a) nq)) (c, bs, 0)).2.1 (ch (fndS a np w (fun k p => lsN a np hr k 2 p)) nq (pop (wtS a nq)) (pop (wtS a nq)) (wtS a nq) (clS a nq) (pop (bsN (hasC a) nq)) (c, bs, 0)).2.2 := by
  have h := (ch_best (W := wtS a nq) (nq := nq) (m := pop (wtS a nq)) (fnd := fndS a np w (fun k p => lsN a np hr k 2 p)) (s0 := (clS a nq, pop (bsN (hasC a) nq))) wtS_lt2 (rk_wtS hq) hq (pop (wtS a nq)) (Nat.le_refl _) (wtS a nq) (clS a nq) (pop (bsN (hasC a) nq)) (c, bs, 0) (fun i hi => absurd hi (by omega)) (fun i j hi => absurd hi (by omega)) (Nat.lt_of_lt_of_le (wtS_lt hq) (by decide)) (fun q => ⟨fun y => ⟨y, fun i hi => absurd hi (by omega)⟩, fun y => y.1⟩) (by rw [Nat.sub_self]; rfl) (by
    rw [Nat.sub_self, cdo, Nat.zero_mul]
    exact ⟨fun o _ h => absurd h (Nat.not_lt_zero _), Or.inl rfl⟩)).1
  rw [Nat.sub_self, cdo, Nat.zero_add, Nat.one_mul] at h
  exact h
theorem ord_uniq {a : SA} {np nq hr w : Nat} (hq : nq ≤ 6) {bs : Nat → Nat} {mo : Nat} (h : Bst (wtS a nq) (pop (wtS a nq)) (ordV a np nq hr w) (pop (wtS a nq) ^ pop (wtS a nq)) bs mo) : mo = (ordC a np nq hr w).2.2 ∧ ∀ j, j < pop (wtS a nq) → bs j = (ordC a np nq hr w).2.1 j :=
  h.uniq (nq := nq) wtS_lt2 (rk_wtS hq) (ord_ch hq _ _)

set_option maxHeartbeats 4000000 in
set_option maxRecDepth 100000 in
theorem c_X6_order (l : Launch) (d : Nat) (X : Nat × (Nat → Int32)) (n : Nat) {σ : Wd} {a : SA} {np nq hr dr : Nat} {hs : List SN} {im : IM} {tp : Nat → Nat} {tl : Nat} {ln sz : Nat → Nat} {it : Nat → Nat → Int64} (hC : CA σ a np nq hr dr hs im tp tl ln sz it) (hI : WI a np nq hr dr hs im tp tl ln sz) (w k : Int32) : CN l yX6_order cX6_order 3 (some .int) ((d + 10)) X n [.ref 0, .int w, .int k] σ (fun v σ' => v = some (.int (s_order a np nq hr w k)) ∧ (CA σ' a np nq hr dr hs im tp tl ln sz it ∧ Eqo 0 42 σ σ')) := by
  refine CN.of (by decide) [some (.ref 0), some (.int w), some (.int k)] (fun _ => Nat.le_of_ble_eq_true rfl) (fun _ => rfl) (fun cx hc => ?_)
  obtain ⟨c0, c1, c2, ⟨xa, xp, xq, xh, xd, c3⟩, c4, ⟨xl, c5⟩, c6, ⟨xf, xg, xT, c7⟩, ⟨yd, yc, yb, yn, ys, yl, ym, c8⟩⟩ := hC
  obtain ⟨hW, hh, hdr, hwh, hwi, hU, hV⟩ := hI
  have hW1 := hW.1
  have hW2 := hW.2.1
  have hF : Eqo 0 42 σ σ := Eqo.rf
  refine R.iload_n (j := 1) (i := 1) hc rfl rfl dX6_order_0 ?_
  refine R.iconst hc ic_1 dX6_order_1 ?_
  refine R.bipush hc bp_30 dX6_order_2 ?_
  refine R.cSr hc m_X6_within lk_X6_64 dX6_order_4 (c_X6_within l (d + 9) X n _ _ _) rfl rfl (by omega) ⟨Nat.le_refl _, Nat.le_refl _⟩ (Nat.le_of_ble_eq_true rfl) ?_
  refine R.ifB_eq (tgt := 15) hc dX6_order_7 (by decide) (fun q1 => ?_) (fun q1 => ?_)
  · refine R.iconst hc ic_m1 dX6_order_15 ?_
    have e9 : (-1) = s_order a np nq hr w k := by simp [s_order, q1]
    exact R.iret hc rfl dX6_order_16 ⟨rfl, congrArg (fun z => some (Value.int z)) e9, ⟨c0, c1, c2, ⟨_, _, _, _, _, c3⟩, c4, ⟨_, c5⟩, c6, ⟨_, _, _, c7⟩, ⟨_, _, _, _, _, _, _, c8⟩⟩, hF⟩
  refine R.iload_n (j := 2) (i := 2) hc rfl rfl dX6_order_10 ?_
  refine R.iconst hc ic_m1 dX6_order_11 ?_
  refine R.icmp_ge (tgt := 17) hc dX6_order_12 (by decide) (fun q2 => ?_) (fun q2 => ?_)
  rotate_left
  · refine R.iconst hc ic_m1 dX6_order_15 ?_
    have e9 : (-1) = s_order a np nq hr w k := by simp [s_order, q2]
    exact R.iret hc rfl dX6_order_16 ⟨rfl, congrArg (fun z => some (Value.int z)) e9, ⟨c0, c1, c2, ⟨_, _, _, _, _, c3⟩, c4, ⟨_, c5⟩, c6, ⟨_, _, _, c7⟩, ⟨_, _, _, _, _, _, _, c8⟩⟩, hF⟩
  obtain ⟨i1, rfl, _, g1, t1⟩ := inR_of (by decide) (by decide) q1
  have hA : s_order a np nq hr (nI i1) k = (if k = (-1) then lnI (ordC a np nq hr i1).2.2 else if inI k (pop (wtS a nq)) then nI ((ordC a np nq hr i1).2.1 (tN k)) else -4) := by simp [s_order, q1, t1, q2]
  rw [hA] at hc
  refine R.aload_n (j := 0) (i := 0) hc rfl rfl dX6_order_17 ?_
  refine R.get hc gf_X6_23_r dX6_order_18 (c0) rfl ?_
  refine R.aload_n (j := 0) (i := 0) hc rfl rfl dX6_order_21 ?_
  refine R.get hc gf_X6_10_r dX6_order_22 (c0) rfl ?_
  refine R.cVu hc m_X4_copyFrom lk_X6_140 dX6_order_25 (c_X4_copyFrom l (d + 8) X n c3 c1 hW1 hW2 (by omega)) (c3.obj) rfl rfl rfl (by omega) ⟨Nat.le_refl _, Nat.le_refl _⟩ (Nat.le_of_ble_eq_true rfl) (fun σ hX => ?_)
  have hE := hX.2
  have c3 := hX.1
  have c0 := (hE 0 (by omega)).trans c0
  have c1 := SX.ag c1 (fun j h1 h2 => hE j (by omega))
  have c2 := Hi.ag c2 (fun j h1 h2 => hE j (by omega))
  have c4 := Im.ag c4 (fun j h1 h2 => hE j (by omega))
  have c5 := Tp.ag c5 (fun j h1 h2 => hE j (by omega))
  have c6 := Sh.ag c6 (fun j h1 h2 => hE j (by omega))
  have c7 := Mt.ag c7 (fun j h1 h2 => hE j (by omega))
  have c8 := Od.ag c8 (fun j h1 h2 => hE j (by omega))
  have hF : Eqo 0 42 _ σ := fun j hj => (hE j (by omega)).trans (hF j hj)
  refine R.aload_n (j := 0) (i := 0) hc rfl rfl dX6_order_28 ?_
  refine R.get hc gf_X6_60_r dX6_order_29 (c0) rfl ?_
  refine R.aload_n (j := 0) (i := 0) hc rfl rfl dX6_order_32 ?_
  refine R.get hc gf_X6_23_r dX6_order_33 (c0) rfl ?_
  refine R.iload_n (j := 1) (i := 1) hc rfl rfl dX6_order_36 ?_
  refine R.cVu hc m_X2_search lk_X6_198 dX6_order_37 (c_X2_search l d X n c8 c3 hW (by omega) (by omega) (by omega)) (c8.1) rfl rfl rfl (by omega) ⟨Nat.le_refl _, Nat.le_refl _⟩ (Nat.le_of_ble_eq_true rfl) (fun σ hX => ?_)
  obtain ⟨d8, ⟨xa, xh, c3⟩, hE⟩ := hX
  have hu := ord_uniq hW2 (ord_ch (a := a) (np := np) (hr := hr) (w := i1) hW2 yc yb)
  have c8 := d8
  have c0 := (hE 0 (by omega) (by omega)).trans c0
  have c1 := SX.ag c1 (fun j h1 h2 => hE j (by omega) (by omega))
  have c2 := Hi.ag c2 (fun j h1 h2 => hE j (by omega) (by omega))
  have c4 := Im.ag c4 (fun j h1 h2 => hE j (by omega) (by omega))
  have c5 := Tp.ag c5 (fun j h1 h2 => hE j (by omega) (by omega))
  have c6 := Sh.ag c6 (fun j h1 h2 => hE j (by omega) (by omega))
  have c7 := Mt.ag c7 (fun j h1 h2 => hE j (by omega) (by omega))
  have hF : Eqo 0 42 _ σ := fun j hj => (hE j (by omega) (by omega)).trans (hF j hj)
  refine R.iload_n (j := 2) (i := 2) hc rfl rfl dX6_order_40 ?_
  refine R.iconst hc ic_m1 dX6_order_41 ?_
  refine R.icmp_ne (tgt := 55) hc dX6_order_42 (by decide) (fun z => ?_) (fun z => ?_)
  · rw [if_neg z] at hc
    refine R.aload_n (j := 0) (i := 0) hc rfl rfl dX6_order_55 ?_
    refine R.get hc gf_X6_60_r dX6_order_56 (c0) rfl ?_
    refine R.iload_n (j := 2) (i := 2) hc rfl rfl dX6_order_59 ?_
    refine R.cVr hc m_X2_nth lk_X6_205 dX6_order_60 (c_X2_nth l (d + 9) X n c8 (pop_6 _ (wtS_lt hW2)) _) (c8.1) rfl rfl rfl (by omega) ⟨Nat.le_refl _, Nat.le_refl _⟩ (Nat.le_of_ble_eq_true rfl) ?_
    have e9 : (if inI k (pop (wtS a nq)) then nI ((ch (fndS a np i1 (fun k p => lsN a np hr k 2 p)) nq (pop (wtS a nq)) (pop (wtS a nq)) (wtS a nq) (clS a nq) (pop (bsN (hasC a) nq)) (yc, yb, 0)).2.1 k.toNatClampNeg) else -4) = (if inI k (pop (wtS a nq)) then nI ((ordC a np nq hr i1).2.1 (tN k)) else -4) := by
      cases y : inI k (pop (wtS a nq))
      · rfl
      · obtain ⟨j, rfl, hj, t2⟩ := inI_tN (Nat.lt_of_le_of_lt (pop_6 _ (wtS_lt hW2)) (by decide)) y
        rw [show Int32.toNatClampNeg (nI j) = j from t2, t2, hu.2 j hj]
    exact R.iret hc rfl dX6_order_63 ⟨rfl, congrArg (fun z => some (Value.int z)) e9, ⟨c0, c1, c2, ⟨_, _, _, _, _, c3⟩, c4, ⟨_, c5⟩, c6, ⟨_, _, _, c7⟩, ⟨_, _, _, _, _, _, _, c8⟩⟩, hF⟩
  · rw [if_pos z] at hc
    refine R.aload_n (j := 0) (i := 0) hc rfl rfl dX6_order_45 ?_
    refine R.get hc gf_X6_60_r dX6_order_46 (c0) rfl ?_
    refine R.get hc gf_X6_202_r dX6_order_49 (c8.1) rfl ?_
    refine R.goto (tgt := 63) hc dX6_order_52 (by decide) ?_
    exact R.iret hc rfl dX6_order_63 ⟨rfl, by rw [hu.1], ⟨c0, c1, c2, ⟨_, _, _, _, _, c3⟩, c4, ⟨_, c5⟩, c6, ⟨_, _, _, c7⟩, ⟨_, _, _, _, _, _, _, c8⟩⟩, hF⟩
