/-- the next draw (told by choice, so that nothing computes it) -/
noncomputable def drw (dr : Nat) : Nat := Classical.choose (⟨_, rfl⟩ : ∃ x : Nat, x = (dr * 1103515245 + 12345) % 2147483648)
theorem drw_eq (dr : Nat) : drw dr = (dr * 1103515245 + 12345) % 2147483648 := Classical.choose_spec (⟨_, rfl⟩ : ∃ x : Nat, x = (dr * 1103515245 + 12345) % 2147483648)
theorem drw_lt (x : Nat) : drw x < 2147483648 := by rw [drw_eq]; exact Nat.mod_lt _ (by decide)
def cartS (a : SA) (np dr : Nat) : SA := if 0 < np ∧ dr / 65536 % 3 = 0 then a2 a 2 (dr / 128 % np) (a 2 (dr / 128 % np) / 2) else a
theorem WF_half {a : SA} {np nq p : Nat} (hW : WF a np nq) : WF (a2 a 2 p (a 2 p / 2)) np nq := by
  refine WF_deep hW (fun k j hk => by rw [a2_n (by omega)]) (fun j hj => ?_)
  have := (hW.2.2.1 j hj).2.2
  by_cases e : j = p
  · subst e; rw [a2_s]; omega
  · rw [a2_n (by omega)]; exact this
theorem WF_cart {a : SA} {np nq dr : Nat} (hW : WF a np nq) : WF (cartS a np dr) np nq := by
  unfold cartS
  split
  · exact WF_half hW
  · exact hW
set_option maxHeartbeats 4000000 in
set_option maxRecDepth 100000 in
theorem c_X4_drawCart (l : Launch) (d : Nat) (X : Nat × (Nat → Int32)) (n : Nat) {σ : Wd} {b : Nat} {a : SA} {np nq hr dr : Nat} (hS : St σ b a np nq hr dr) (hW : WF a np nq) (hdr : dr < 2147483648) : CN l yX4_drawCart cX4_drawCart 1 none ((d + 1)) X n [.ref b] σ (fun v σ' => v = none ∧ (St σ' b (cartS a np (drw dr)) np nq hr (drw dr) ∧ Eqo b 8 σ σ')) := by
  refine CN.of (by decide) [some (.ref b)] (fun _ => Nat.le_of_ble_eq_true rfl) (fun _ => rfl) (fun cx hc => ?_)
  have hW1 := hW.1
  have hW2 := hW.2.1
  have hdw : drw dr < 2147483648 := drw_lt dr
  refine R.aload_n (j := 0) (i := 0) hc rfl rfl dX4_drawCart_0 ?_
  refine R.aload_n (j := 0) (i := 0) hc rfl rfl dX4_drawCart_1 ?_
  refine R.get hc gf_X4_43_r dX4_drawCart_2 (hS.obj) rfl ?_
  refine R.ldc hc kn_X4_117 dX4_drawCart_5 ?_
  first | refine R.imulN hc dX4_drawCart_7 ?_ | refine R.imul hc dX4_drawCart_7 ?_
  refine R.sipush hc sp_12345 dX4_drawCart_8 ?_
  first | refine R.iaddN hc dX4_drawCart_11 ?_ | refine R.iadd hc dX4_drawCart_11 ?_
  refine R.ldc hc kn_X4_118 dX4_drawCart_12 ?_
  first | refine R.iandN hc dX4_drawCart_14 ?_ | refine R.iand hc dX4_drawCart_14 ?_
  have e1 : (dr * 1103515245 + 12345) &&& 2147483647 = drw dr := by rw [drw_eq]; exact Nat.and_two_pow_sub_one_eq_mod _ 31
  rw [e1]
  refine R.putW hc gf_X4_43 dX4_drawCart_15 (hS.p10 _) (fun _ => rfl) (fun _ => rfl) (fun σ hX => ?_)
  obtain ⟨hS, hF⟩ := hX
  refine R.aload_n (j := 0) (i := 0) hc rfl rfl dX4_drawCart_18 ?_
  refine R.get hc gf_X4_33_r dX4_drawCart_19 (hS.obj) rfl ?_
  refine R.ifN_le (tgt := 54) hc dX4_drawCart_22 (by decide) (by omega) (fun z => ?_) (fun z => ?_)
  · exact R.vret hc rfl dX4_drawCart_54 ⟨rfl, rfl, by rw [cartS, if_neg (by omega)]; exact hS, hF⟩
  refine R.aload_n (j := 0) (i := 0) hc rfl rfl dX4_drawCart_25 ?_
  refine R.get hc gf_X4_43_r dX4_drawCart_26 (hS.obj) rfl ?_
  refine R.ldc hc kn_X4_119 dX4_drawCart_29 ?_
  first | refine R.idivN hc (by omega) (by omega) (by omega) dX4_drawCart_31 ?_ | refine R.idiv hc (by decide) dX4_drawCart_31 ?_
  refine R.iconst hc ic_3 dX4_drawCart_32 ?_
  first | refine R.iremN hc (by omega) (by omega) (by omega) dX4_drawCart_33 ?_ | refine R.irem hc (by decide) dX4_drawCart_33 ?_
  refine R.ifN_ne (tgt := 54) hc dX4_drawCart_34 (by decide) (by omega) (fun y => ?_) (fun y => ?_)
  · exact R.vret hc rfl dX4_drawCart_54 ⟨rfl, rfl, by rw [cartS, if_neg (by omega)]; exact hS, hF⟩
  refine R.aload_n (j := 0) (i := 0) hc rfl rfl dX4_drawCart_37 ?_
  refine R.aload_n (j := 0) (i := 0) hc rfl rfl dX4_drawCart_38 ?_
  refine R.get hc gf_X4_43_r dX4_drawCart_39 (hS.obj) rfl ?_
  refine R.sipush hc sp_128 dX4_drawCart_42 ?_
  first | refine R.idivN hc (by omega) (by omega) (by omega) dX4_drawCart_45 ?_ | refine R.idiv hc (by decide) dX4_drawCart_45 ?_
  refine R.aload_n (j := 0) (i := 0) hc rfl rfl dX4_drawCart_46 ?_
  refine R.get hc gf_X4_33_r dX4_drawCart_47 (hS.obj) rfl ?_
  first | refine R.iremN hc (by omega) (by omega) (by omega) dX4_drawCart_50 ?_ | refine R.irem hc (by decide) dX4_drawCart_50 ?_
  refine R.cVu hc m_X4_halve lk_X4_120 dX4_drawCart_51 (c_X4_halve l d X n hS hW (Nat.mod_lt _ (by omega))) (hS.obj) rfl rfl rfl (by omega) ⟨Nat.le_refl _, Nat.le_refl _⟩ (Nat.le_of_ble_eq_true rfl) (fun σ hX => ?_)
  exact R.vret hc rfl dX4_drawCart_54 ⟨rfl, rfl, by rw [cartS, if_pos ⟨z, y⟩]; exact hX.1, hF.tr hX.2⟩
set_option maxHeartbeats 4000000 in
set_option maxRecDepth 100000 in
theorem c_X4_claimantsBehind (l : Launch) (d : Nat) (X : Nat × (Nat → Int32)) (n : Nat) {σ : Wd} {b : Nat} {a : SA} {np nq hr dr : Nat} (hS : St σ b a np nq hr dr) (hW : WF a np nq) {k0 : Nat} (hk0 : k0 ≤ 40) (hh : hr < 90000) : CN l yX4_claimantsBehind cX4_claimantsBehind 3 (some .int) ((d + 4)) X n [.ref b, .int (nI k0)] σ (fun v σ' => v = some (.int (nI (bsN (hasC (hoursN a np nq hr k0)) nq))) ∧ (∃ m, St σ' b (hoursN a np nq hr m) np nq (hr + m) dr ∧ (∀ q, q < nq → hoursN a np nq hr m 6 q = hoursN a np nq hr k0 6 q) ∧ Eqo b 8 σ σ')) := by
  refine CN.of (by decide) [some (.ref b), some (.int (nI k0)), none] (fun _ => Nat.le_of_ble_eq_true rfl) (fun _ => rfl) (fun cx hc => ?_)
  have hW1 := hW.1
  have hW2 := hW.2.1
  refine R.iconst hc ic_0 dX4_claimantsBehind_0 ?_
  refine R.istn2 hc dX4_claimantsBehind_1 (by decide) rfl ?_
  have fin : ∀ σ1 m, m ≤ k0 → St σ1 b (hoursN a np nq hr m) np nq (hr + m) dr → (∀ q, q < nq → hoursN a np nq hr m 6 q = hoursN a np nq hr k0 6 q) → Eqo b 8 σ σ1 → R cx 0 0 n σ1 31 [some (.ref b), some (.int (nI k0)), none] [] := by
    intro σ m hm hS he hF
    have hWk := WF_hoursN (hr := hr) hW m
    refine R.aload_n (j := 0) (i := 0) hc rfl rfl dX4_claimantsBehind_31 ?_
    refine R.cVr hc m_X4_claimants lk_X4_111 dX4_claimantsBehind_32 (c_X4_claimants l (d + 2) X n hS hWk) (hS.obj) rfl rfl rfl (by omega) ⟨Nat.le_refl _, Nat.le_refl _⟩ (Nat.le_of_ble_eq_true rfl) ?_
    have e9 : bsN (hasC (hoursN a np nq hr m)) nq = bsN (hasC (hoursN a np nq hr k0)) nq := bsN_ext nq (fun q hq => by unfold hasC; rw [he q hq])
    exact R.iret hc rfl dX4_claimantsBehind_35 ⟨rfl, by rw [e9], m, hS, he, hF⟩
  refine rl_down (P := fun m => ∀ σ1, St σ1 b (hoursN a np nq hr m) np nq (hr + m) dr → Eqo b 8 σ σ1 → R cx 0 0 n σ1 2 [some (.ref b), some (.int (nI k0)), some (.int (nI m))] []) k0 (fun σ hS hF => ?_) (fun m hm ih σ hS hF => ?_) 0 (Nat.zero_le _) σ hS Eqo.rf
  · refine R.iload_n (j := 2) (i := 2) hc rfl rfl dX4_claimantsBehind_2 ?_
    refine R.iload_n (j := 1) (i := 1) hc rfl rfl dX4_claimantsBehind_3 ?_
    refine R.icmpN_ge (tgt := 31) hc dX4_claimantsBehind_4 (by decide) (by omega) (by omega) (fun _ => ?_) (fun q => absurd (Nat.le_refl _) q)
    exact R.fg2 (fin σ k0 (Nat.le_refl _) hS (fun _ _ => rfl) hF)
  · have hWk := WF_hoursN (hr := hr) hW m
    have go : R cx 0 0 n σ 21 [some (.ref b), some (.int (nI k0)), some (.int (nI m))] [] := by
      refine R.aload_n (j := 0) (i := 0) hc rfl rfl dX4_claimantsBehind_21 ?_
      refine R.cVu hc m_X4_passHour lk_X4_108 dX4_claimantsBehind_22 (c_X4_passHour l d X n hS hWk (by omega)) (hS.obj) rfl rfl rfl (by omega) ⟨Nat.le_refl _, Nat.le_refl _⟩ (Nat.le_of_ble_eq_true rfl) (fun σ hX => ?_)
      obtain ⟨hS, hE⟩ := hX
      refine R.iinc2 hc dX4_claimantsBehind_25 (iiN1 _) (by decide) rfl ?_
      refine R.goto (tgt := 2) hc dX4_claimantsBehind_28 (by decide) ?_
      exact ih σ hS (hF.tr hE)
    refine R.iload_n (j := 2) (i := 2) hc rfl rfl dX4_claimantsBehind_2 ?_
    refine R.iload_n (j := 1) (i := 1) hc rfl rfl dX4_claimantsBehind_3 ?_
    refine R.icmpN_ge (tgt := 31) hc dX4_claimantsBehind_4 (by decide) (by omega) (by omega) (fun q => absurd q (by omega)) (fun _ => ?_)
    refine R.iload_n (j := 2) (i := 2) hc rfl rfl dX4_claimantsBehind_7 ?_
    refine R.ifN_le (tgt := 21) hc dX4_claimantsBehind_8 (by decide) (by omega) (fun _ => go) (fun z => ?_)
    refine R.aload_n (j := 0) (i := 0) hc rfl rfl dX4_claimantsBehind_11 ?_
    refine R.cVr hc m_X4_isAnyoneToCome lk_X4_104 dX4_claimantsBehind_12 (c_X4_isAnyoneToCome l (d + 2) X n hS hWk (by omega)) (hS.obj) rfl rfl rfl (by omega) ⟨Nat.le_refl _, Nat.le_refl _⟩ (Nat.le_of_ble_eq_true rfl) ?_
    refine R.ifB_ne (tgt := 21) hc dX4_claimantsBehind_15 (by decide) (fun _ => go) (fun y => ?_)
    refine R.goto (tgt := 31) hc dX4_claimantsBehind_18 (by decide) ?_
    refine R.fg2 (fin σ m (by omega) hS (fun q hq => ?_) hF)
    obtain ⟨i, rfl⟩ : ∃ i, m = i + 1 := ⟨m - 1, by omega⟩
    refine ((stl_all (m := i + 1) hour_stl (fun q hq h0 => anyC_false nq 0 y q (by omega) (by omega) h0) k0 (by omega)).1 q).symm
/-- row k of another -/
def rowK (a a' : SA) (k : Nat) : SA := fun k' j => if k' = k then a' k' j else a k' j
theorem rowK_s {a a' : SA} {k j : Nat} : rowK a a' k k j = a' k j := by simp [rowK]
theorem rowK_n {a a' : SA} {k k' j : Nat} (h : k' ≠ k) : rowK a a' k k' j = a k' j := by simp [rowK, h]
section CP
variable {σ : Wd} {b b' : Nat} {a a' : SA} {np nq hr dr np' nq' hr' dr' : Nat}
theorem SX.cA (h : SX σ b a 7 6 np nq hr dr) (h' : SX σ b' a' 7 6 np' nq' hr' dr') (k : Nat) (hk : k < 3) : ∃ f g : Nat → Int32, σ (b' + (1 + k)) = some (.inl (0, 7, .inl f)) ∧ σ (b + (1 + k)) = some (.inl (0, 7, .inl g)) ∧ SP b (rowK a a' k) 7 6 np nq hr dr σ (rl_up σ (b + (1 + k)) (.inl (0, 7, .inl (va_cpy f g 0 0 7)))) := by
  obtain ⟨f, f1, f2⟩ := h'.2.1 k hk
  obtain ⟨g, g1, g2⟩ := h.2.1 k hk
  refine ⟨f, g, f1, g1, ⟨?_, fun i hi => ?_, fun i hi => ?_, ?_⟩, Eqo.up (by omega)⟩
  · rw [rl_up_n (by omega)]; exact h.1
  · by_cases e : i = k
    · subst e
      refine ⟨_, rl_up_s, fun p hp => ?_⟩
      rw [pk_cpy_in (by omega) (by omega), rowK_s, Nat.sub_zero, Nat.zero_add]
      exact f2 p hp
    · rw [rl_up_n (by omega)]
      obtain ⟨z, z1, z2⟩ := h.2.1 i hi
      exact ⟨z, z1, fun p hp => by rw [rowK_n e]; exact z2 p hp⟩
  · rw [rl_up_n (by omega)]
    obtain ⟨z, z1, z2⟩ := h.2.2.1 i hi
    exact ⟨z, z1, fun p hp => by rw [rowK_n (by omega)]; exact z2 p hp⟩
  · rw [rl_up_n (by omega)]
    obtain ⟨z, z1, z2⟩ := h.2.2.2
    exact ⟨z, z1, fun p hp => by rw [rowK_n (by omega)]; exact z2 p hp⟩
theorem SX.cB (h : SX σ b a 7 6 np nq hr dr) (h' : SX σ b' a' 7 6 np' nq' hr' dr') (k : Nat) (hk : k < 3) : ∃ f g : Nat → Int32, σ (b' + (4 + k)) = some (.inl (0, 6, .inl f)) ∧ σ (b + (4 + k)) = some (.inl (0, 6, .inl g)) ∧ SP b (rowK a a' (3 + k)) 7 6 np nq hr dr σ (rl_up σ (b + (4 + k)) (.inl (0, 6, .inl (va_cpy f g 0 0 6)))) := by
  obtain ⟨f, f1, f2⟩ := h'.2.2.1 k hk
  obtain ⟨g, g1, g2⟩ := h.2.2.1 k hk
  refine ⟨f, g, f1, g1, ⟨?_, fun i hi => ?_, fun i hi => ?_, ?_⟩, Eqo.up (by omega)⟩
  · rw [rl_up_n (by omega)]; exact h.1
  · rw [rl_up_n (by omega)]
    obtain ⟨z, z1, z2⟩ := h.2.1 i hi
    exact ⟨z, z1, fun p hp => by rw [rowK_n (by omega)]; exact z2 p hp⟩
  · by_cases e : i = k
    · subst e
      refine ⟨_, rl_up_s, fun p hp => ?_⟩
      rw [pk_cpy_in (by omega) (by omega), rowK_s, Nat.sub_zero, Nat.zero_add]
      exact f2 p hp
    · rw [rl_up_n (by omega)]
      obtain ⟨z, z1, z2⟩ := h.2.2.1 i hi
      exact ⟨z, z1, fun p hp => by rw [rowK_n (by omega)]; exact z2 p hp⟩
  · rw [rl_up_n (by omega)]
    obtain ⟨z, z1, z2⟩ := h.2.2.2
    exact ⟨z, z1, fun p hp => by rw [rowK_n (by omega)]; exact z2 p hp⟩
theorem SX.c6 (h : SX σ b a 7 6 np nq hr dr) (h' : SX σ b' a' 7 6 np' nq' hr' dr') : ∃ f g : Nat → Int32, σ (b' + 7) = some (.inl (0, 6, .inl f)) ∧ σ (b + 7) = some (.inl (0, 6, .inl g)) ∧ SP b (rowK a a' 6) 7 6 np nq hr dr σ (rl_up σ (b + 7) (.inl (0, 6, .inl (va_cpy f g 0 0 6)))) := by
  obtain ⟨f, f1, f2⟩ := h'.2.2.2
  obtain ⟨g, g1, g2⟩ := h.2.2.2
  refine ⟨f, g, f1, g1, ⟨?_, fun i hi => ?_, fun i hi => ?_, ?_⟩, Eqo.up (by omega)⟩
  · rw [rl_up_n (by omega)]; exact h.1
  · rw [rl_up_n (by omega)]
    obtain ⟨z, z1, z2⟩ := h.2.1 i hi
    exact ⟨z, z1, fun p hp => by rw [rowK_n (by omega)]; exact z2 p hp⟩
  · rw [rl_up_n (by omega)]
    obtain ⟨z, z1, z2⟩ := h.2.2.1 i hi
    exact ⟨z, z1, fun p hp => by rw [rowK_n (by omega)]; exact z2 p hp⟩
  · refine ⟨_, rl_up_s, fun p hp => ?_⟩
    rw [pk_cpy_in (by omega) (by omega), rowK_s, Nat.sub_zero, Nat.zero_add]
    exact f2 p hp
theorem SX.c0 (h : SX σ b a 7 6 np nq hr dr) (h' : SX σ b' a' 7 6 np' nq' hr' dr') : ∃ f g : Nat → Int32, σ (b' + 1) = some (.inl (0, 7, .inl f)) ∧ σ (b + 1) = some (.inl (0, 7, .inl g)) ∧ SP b (rowK a a' 0) 7 6 np nq hr dr σ (rl_up σ (b + 1) (.inl (0, 7, .inl (va_cpy f g 0 0 7)))) := h.cA h' 0 (by omega)
theorem SX.c1 (h : SX σ b a 7 6 np nq hr dr) (h' : SX σ b' a' 7 6 np' nq' hr' dr') : ∃ f g : Nat → Int32, σ (b' + 2) = some (.inl (0, 7, .inl f)) ∧ σ (b + 2) = some (.inl (0, 7, .inl g)) ∧ SP b (rowK a a' 1) 7 6 np nq hr dr σ (rl_up σ (b + 2) (.inl (0, 7, .inl (va_cpy f g 0 0 7)))) := h.cA h' 1 (by omega)
theorem SX.c2 (h : SX σ b a 7 6 np nq hr dr) (h' : SX σ b' a' 7 6 np' nq' hr' dr') : ∃ f g : Nat → Int32, σ (b' + 3) = some (.inl (0, 7, .inl f)) ∧ σ (b + 3) = some (.inl (0, 7, .inl g)) ∧ SP b (rowK a a' 2) 7 6 np nq hr dr σ (rl_up σ (b + 3) (.inl (0, 7, .inl (va_cpy f g 0 0 7)))) := h.cA h' 2 (by omega)
theorem SX.c3 (h : SX σ b a 7 6 np nq hr dr) (h' : SX σ b' a' 7 6 np' nq' hr' dr') : ∃ f g : Nat → Int32, σ (b' + 4) = some (.inl (0, 6, .inl f)) ∧ σ (b + 4) = some (.inl (0, 6, .inl g)) ∧ SP b (rowK a a' 3) 7 6 np nq hr dr σ (rl_up σ (b + 4) (.inl (0, 6, .inl (va_cpy f g 0 0 6)))) := h.cB h' 0 (by omega)
theorem SX.c4 (h : SX σ b a 7 6 np nq hr dr) (h' : SX σ b' a' 7 6 np' nq' hr' dr') : ∃ f g : Nat → Int32, σ (b' + 5) = some (.inl (0, 6, .inl f)) ∧ σ (b + 5) = some (.inl (0, 6, .inl g)) ∧ SP b (rowK a a' 4) 7 6 np nq hr dr σ (rl_up σ (b + 5) (.inl (0, 6, .inl (va_cpy f g 0 0 6)))) := h.cB h' 1 (by omega)
theorem SX.c5 (h : SX σ b a 7 6 np nq hr dr) (h' : SX σ b' a' 7 6 np' nq' hr' dr') : ∃ f g : Nat → Int32, σ (b' + 6) = some (.inl (0, 6, .inl f)) ∧ σ (b + 6) = some (.inl (0, 6, .inl g)) ∧ SP b (rowK a a' 5) 7 6 np nq hr dr σ (rl_up σ (b + 6) (.inl (0, 6, .inl (va_cpy f g 0 0 6)))) := h.cB h' 2 (by omega)
end CP
set_option maxHeartbeats 4000000 in
set_option maxRecDepth 100000 in
theorem c_X4_copyFrom (l : Launch) (d : Nat) (X : Nat × (Nat → Int32)) (n : Nat) {σ : Wd} {b b' : Nat} {a a' : SA} {np nq hr dr np' nq' hr' dr' : Nat} (hS : St σ b a np nq hr dr) (hO : St σ b' a' np' nq' hr' dr') (hn7 : np' ≤ 7) (hn6 : nq' ≤ 6) (hb : b + 8 ≤ b' ∨ b' + 8 ≤ b) : CN l yX4_copyFrom cX4_copyFrom 2 none ((d + 1)) X n [.ref b, .ref b'] σ (fun v σ' => v = none ∧ (St σ' b a' np' nq' hr' dr' ∧ Eqo b 8 σ σ')) := by
  refine CN.of (by decide) [some (.ref b), some (.ref b')] (fun _ => Nat.le_of_ble_eq_true rfl) (fun _ => rfl) (fun cx hc => ?_)
  obtain ⟨a0, hS, -, -⟩ := hS.full
  obtain ⟨a1, hO, e1, e2⟩ := hO.full
  refine R.aload_n (j := 1) (i := 1) hc rfl rfl dX4_copyFrom_0 ?_
  refine R.get hc gf_X4_11_r dX4_copyFrom_1 (hO.obj) rfl ?_
  refine R.iconst hc ic_0 dX4_copyFrom_4 ?_
  refine R.aload_n (j := 0) (i := 0) hc rfl rfl dX4_copyFrom_5 ?_
  refine R.get hc gf_X4_11_r dX4_copyFrom_6 (hS.obj) rfl ?_
  refine R.iconst hc ic_0 dX4_copyFrom_9 ?_
  refine R.bipush hc bp_7 dX4_copyFrom_10 ?_
  refine R.copyW hc lk_X4_46 dX4_copyFrom_12 (hS.c0 hO) (by omega) (by omega) (by decide) (by decide) (by omega) (Nat.le_of_ble_eq_true rfl) (fun σ hX => ?_)
  obtain ⟨hS, hF⟩ := hX
  have hO := SX.eqo hO hF (by omega)
  refine R.aload_n (j := 1) (i := 1) hc rfl rfl dX4_copyFrom_15 ?_
  refine R.get hc gf_X4_15_r dX4_copyFrom_16 (hO.obj) rfl ?_
  refine R.iconst hc ic_0 dX4_copyFrom_19 ?_
  refine R.aload_n (j := 0) (i := 0) hc rfl rfl dX4_copyFrom_20 ?_
  refine R.get hc gf_X4_15_r dX4_copyFrom_21 (hS.obj) rfl ?_
  refine R.iconst hc ic_0 dX4_copyFrom_24 ?_
  refine R.bipush hc bp_7 dX4_copyFrom_25 ?_
  refine R.copyW hc lk_X4_46 dX4_copyFrom_27 (hS.c1 hO) (by omega) (by omega) (by decide) (by decide) (by omega) (Nat.le_of_ble_eq_true rfl) (fun σ hX => ?_)
  obtain ⟨hS, hE⟩ := hX
  have hO := SX.eqo hO hE (by omega)
  have hF := hF.tr hE
  refine R.aload_n (j := 1) (i := 1) hc rfl rfl dX4_copyFrom_30 ?_
  refine R.get hc gf_X4_18_r dX4_copyFrom_31 (hO.obj) rfl ?_
  refine R.iconst hc ic_0 dX4_copyFrom_34 ?_
  refine R.aload_n (j := 0) (i := 0) hc rfl rfl dX4_copyFrom_35 ?_
  refine R.get hc gf_X4_18_r dX4_copyFrom_36 (hS.obj) rfl ?_
  refine R.iconst hc ic_0 dX4_copyFrom_39 ?_
  refine R.bipush hc bp_7 dX4_copyFrom_40 ?_
  refine R.copyW hc lk_X4_46 dX4_copyFrom_42 (hS.c2 hO) (by omega) (by omega) (by decide) (by decide) (by omega) (Nat.le_of_ble_eq_true rfl) (fun σ hX => ?_)
  obtain ⟨hS, hE⟩ := hX
  have hO := SX.eqo hO hE (by omega)
  have hF := hF.tr hE
  refine R.aload_n (j := 1) (i := 1) hc rfl rfl dX4_copyFrom_45 ?_
  refine R.get hc gf_X4_21_r dX4_copyFrom_46 (hO.obj) rfl ?_
  refine R.iconst hc ic_0 dX4_copyFrom_49 ?_
  refine R.aload_n (j := 0) (i := 0) hc rfl rfl dX4_copyFrom_50 ?_
  refine R.get hc gf_X4_21_r dX4_copyFrom_51 (hS.obj) rfl ?_
  refine R.iconst hc ic_0 dX4_copyFrom_54 ?_
  refine R.bipush hc bp_6 dX4_copyFrom_55 ?_
  refine R.copyW hc lk_X4_46 dX4_copyFrom_57 (hS.c3 hO) (by omega) (by omega) (by decide) (by decide) (by omega) (Nat.le_of_ble_eq_true rfl) (fun σ hX => ?_)
  obtain ⟨hS, hE⟩ := hX
  have hO := SX.eqo hO hE (by omega)
  have hF := hF.tr hE
  refine R.aload_n (j := 1) (i := 1) hc rfl rfl dX4_copyFrom_60 ?_
  refine R.get hc gf_X4_24_r dX4_copyFrom_61 (hO.obj) rfl ?_
  refine R.iconst hc ic_0 dX4_copyFrom_64 ?_
  refine R.aload_n (j := 0) (i := 0) hc rfl rfl dX4_copyFrom_65 ?_
  refine R.get hc gf_X4_24_r dX4_copyFrom_66 (hS.obj) rfl ?_
  refine R.iconst hc ic_0 dX4_copyFrom_69 ?_
  refine R.bipush hc bp_6 dX4_copyFrom_70 ?_
  refine R.copyW hc lk_X4_46 dX4_copyFrom_72 (hS.c4 hO) (by omega) (by omega) (by decide) (by decide) (by omega) (Nat.le_of_ble_eq_true rfl) (fun σ hX => ?_)
  obtain ⟨hS, hE⟩ := hX
  have hO := SX.eqo hO hE (by omega)
  have hF := hF.tr hE
  refine R.aload_n (j := 1) (i := 1) hc rfl rfl dX4_copyFrom_75 ?_
  refine R.get hc gf_X4_27_r dX4_copyFrom_76 (hO.obj) rfl ?_
  refine R.iconst hc ic_0 dX4_copyFrom_79 ?_
  refine R.aload_n (j := 0) (i := 0) hc rfl rfl dX4_copyFrom_80 ?_
  refine R.get hc gf_X4_27_r dX4_copyFrom_81 (hS.obj) rfl ?_
  refine R.iconst hc ic_0 dX4_copyFrom_84 ?_
  refine R.bipush hc bp_6 dX4_copyFrom_85 ?_
  refine R.copyW hc lk_X4_46 dX4_copyFrom_87 (hS.c5 hO) (by omega) (by omega) (by decide) (by decide) (by omega) (Nat.le_of_ble_eq_true rfl) (fun σ hX => ?_)
  obtain ⟨hS, hE⟩ := hX
  have hO := SX.eqo hO hE (by omega)
  have hF := hF.tr hE
  refine R.aload_n (j := 1) (i := 1) hc rfl rfl dX4_copyFrom_90 ?_
  refine R.get hc gf_X4_30_r dX4_copyFrom_91 (hO.obj) rfl ?_
  refine R.iconst hc ic_0 dX4_copyFrom_94 ?_
  refine R.aload_n (j := 0) (i := 0) hc rfl rfl dX4_copyFrom_95 ?_
  refine R.get hc gf_X4_30_r dX4_copyFrom_96 (hS.obj) rfl ?_
  refine R.iconst hc ic_0 dX4_copyFrom_99 ?_
  refine R.bipush hc bp_6 dX4_copyFrom_100 ?_
  refine R.copyW hc lk_X4_46 dX4_copyFrom_102 (hS.c6 hO) (by omega) (by omega) (by decide) (by decide) (by omega) (Nat.le_of_ble_eq_true rfl) (fun σ hX => ?_)
  obtain ⟨hS, hE⟩ := hX
  have hO := SX.eqo hO hE (by omega)
  have hF := hF.tr hE
  refine R.aload_n (j := 0) (i := 0) hc rfl rfl dX4_copyFrom_105 ?_
  refine R.aload_n (j := 1) (i := 1) hc rfl rfl dX4_copyFrom_106 ?_
  refine R.get hc gf_X4_33_r dX4_copyFrom_107 (hO.obj) rfl ?_
  refine R.putW hc gf_X4_33 dX4_copyFrom_110 (hS.p7 _) (fun _ => rfl) (fun _ => rfl) (fun σ hX => ?_)
  obtain ⟨hS, hE⟩ := hX
  have hO := SX.eqo hO hE (by omega)
  have hF := hF.tr hE
  refine R.aload_n (j := 0) (i := 0) hc rfl rfl dX4_copyFrom_113 ?_
  refine R.aload_n (j := 1) (i := 1) hc rfl rfl dX4_copyFrom_114 ?_
  refine R.get hc gf_X4_37_r dX4_copyFrom_115 (hO.obj) rfl ?_
  refine R.putW hc gf_X4_37 dX4_copyFrom_118 (hS.p8 _) (fun _ => rfl) (fun _ => rfl) (fun σ hX => ?_)
  obtain ⟨hS, hE⟩ := hX
  have hO := SX.eqo hO hE (by omega)
  have hF := hF.tr hE
  refine R.aload_n (j := 0) (i := 0) hc rfl rfl dX4_copyFrom_121 ?_
  refine R.aload_n (j := 1) (i := 1) hc rfl rfl dX4_copyFrom_122 ?_
  refine R.get hc gf_X4_40_r dX4_copyFrom_123 (hO.obj) rfl ?_
  refine R.putW hc gf_X4_40 dX4_copyFrom_126 (hS.p9 _) (fun _ => rfl) (fun _ => rfl) (fun σ hX => ?_)
  obtain ⟨hS, hE⟩ := hX
  have hO := SX.eqo hO hE (by omega)
  have hF := hF.tr hE
  refine R.aload_n (j := 0) (i := 0) hc rfl rfl dX4_copyFrom_129 ?_
  refine R.aload_n (j := 1) (i := 1) hc rfl rfl dX4_copyFrom_130 ?_
  refine R.get hc gf_X4_43_r dX4_copyFrom_131 (hO.obj) rfl ?_
  refine R.putW hc gf_X4_43 dX4_copyFrom_134 (hS.p10 _) (fun _ => rfl) (fun _ => rfl) (fun σ hX => ?_)
  obtain ⟨hS, hE⟩ := hX
  have hO := SX.eqo hO hE (by omega)
  have hF := hF.tr hE
  refine R.vret hc rfl dX4_copyFrom_137 ⟨rfl, rfl, hS.ext hn7 hn6 (fun k hk p hp => ?_) (fun k hk hk2 q hq => ?_), hF⟩
  · rw [← e1 k hk p hp]
    rcases (by omega : k = 0 ∨ k = 1 ∨ k = 2) with rfl | rfl | rfl <;> simp [rowK]
  · rw [← e2 k hk hk2 q hq]
    rcases (by omega : k = 3 ∨ k = 4 ∨ k = 5 ∨ k = 6) with rfl | rfl | rfl | rfl <;> simp [rowK]
