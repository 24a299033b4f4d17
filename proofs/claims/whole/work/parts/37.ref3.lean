theorem UdR.nil {f : Nat → Int32} {np nq : Nat} : UdR f [] np nq := fun i s h => absurd h (by simp)
set_option maxHeartbeats 4000000 in
set_option maxRecDepth 100000 in
theorem c_X7_puddle (l : Launch) (d : Nat) (X : Nat × (Nat → Int32)) (n : Nat) {σ : Wd} {a : SA} {np nq hr dr : Nat} {hs : List SN} {im : IM} {tp : Nat → Nat} {tl : Nat} {ln sz : Nat → Nat} {it : Nat → Nat → Int64} (hC : RA σ a np nq hr dr hs im tp tl ln sz it) (hI : WI a np nq hr dr hs im tp tl ln sz) (x y z : Int32) : CN l yX7_puddle cX7_puddle 4 (some .int) ((d + 2)) X n [.ref 42, .int x, .int y, .int z] σ (fun r σ' => r = some (.int (s_puddle np x y z)) ∧ ((if okP x y z = true ∧ np < 7 then RA σ' (a3 a np (tN x) (tN y) (tN z)) (np + 1) nq hr dr [] im tp tl ln sz it else RA σ' a np nq hr dr hs im tp tl ln sz it) ∧ Eqo 42 17 σ σ')) := by
  refine CN.of (by decide) [some (.ref 42), some (.int x), some (.int y), some (.int z)] (fun _ => Nat.le_of_ble_eq_true rfl) (fun _ => rfl) (fun cx hc => ?_)
  obtain ⟨A, L, I, hR, hS⟩ := hC
  obtain ⟨hW, hh, hdr, hwh, hwi, hU, hV⟩ := hI
  have hN := hS.n
  have hW1 := hW.1
  have hW2 := hW.2.1
  have hF : Eqo 42 17 σ σ := Eqo.rf
  refine R.iload_n (j := 1) (i := 1) hc rfl rfl dX7_puddle_0 ?_
  refine R.i2l hc dX7_puddle_1 ?_
  refine R.lconst (j := 0) (v := lN 0) hc rfl dX7_puddle_2 ?_
  refine R.ldc2 hc kn_X7_113 dX7_puddle_3 ?_
  refine R.cSr hc m_X7_in lk_X7_59 dX7_puddle_6 (c_X7_in l (d + 1) X n _ _ _) rfl rfl (by omega) ⟨Nat.le_refl _, Nat.le_refl _⟩ (Nat.le_of_ble_eq_true rfl) ?_
  rw [inL_R (by decide) (by decide)]
  refine R.ifB_eq (tgt := 36) hc dX7_puddle_9 (by decide) (fun q1 => ?_) (fun q1 => ?_)
  · refine R.iconst hc ic_m1 dX7_puddle_36 ?_
    have e9 : (-1) = s_puddle np x y z := by simp [s_puddle, okP, q1]
    exact R.iret hc rfl dX7_puddle_37 ⟨rfl, congrArg (fun z => some (Value.int z)) e9, by rw [if_neg (by simp [okP, q1])]; exact ⟨A, L, I, hR, hS⟩, hF⟩
  refine R.iload_n (j := 2) (i := 2) hc rfl rfl dX7_puddle_12 ?_
  refine R.i2l hc dX7_puddle_13 ?_
  refine R.lconst (j := 0) (v := lN 0) hc rfl dX7_puddle_14 ?_
  refine R.ldc2 hc kn_X7_115 dX7_puddle_15 ?_
  refine R.cSr hc m_X7_in lk_X7_59 dX7_puddle_18 (c_X7_in l (d + 1) X n _ _ _) rfl rfl (by omega) ⟨Nat.le_refl _, Nat.le_refl _⟩ (Nat.le_of_ble_eq_true rfl) ?_
  rw [inL_R (by decide) (by decide)]
  refine R.ifB_eq (tgt := 36) hc dX7_puddle_21 (by decide) (fun q2 => ?_) (fun q2 => ?_)
  · refine R.iconst hc ic_m1 dX7_puddle_36 ?_
    have e9 : (-1) = s_puddle np x y z := by simp [s_puddle, okP, q2]
    exact R.iret hc rfl dX7_puddle_37 ⟨rfl, congrArg (fun z => some (Value.int z)) e9, by rw [if_neg (by simp [okP, q2])]; exact ⟨A, L, I, hR, hS⟩, hF⟩
  refine R.iload_n (j := 3) (i := 3) hc rfl rfl dX7_puddle_24 ?_
  refine R.i2l hc dX7_puddle_25 ?_
  refine R.lconst (j := 0) (v := lN 0) hc rfl dX7_puddle_26 ?_
  refine R.ldc2 hc kn_X7_117 dX7_puddle_27 ?_
  refine R.cSr hc m_X7_in lk_X7_59 dX7_puddle_30 (c_X7_in l (d + 1) X n _ _ _) rfl rfl (by omega) ⟨Nat.le_refl _, Nat.le_refl _⟩ (Nat.le_of_ble_eq_true rfl) ?_
  rw [inL_R (by decide) (by decide)]
  refine R.ifB_ne (tgt := 38) hc dX7_puddle_33 (by decide) (fun q3 => ?_) (fun q3 => ?_)
  rotate_left
  · refine R.iconst hc ic_m1 dX7_puddle_36 ?_
    have e9 : (-1) = s_puddle np x y z := by simp [s_puddle, okP, q3]
    exact R.iret hc rfl dX7_puddle_37 ⟨rfl, congrArg (fun z => some (Value.int z)) e9, by rw [if_neg (by simp [okP, q3])]; exact ⟨A, L, I, hR, hS⟩, hF⟩
  have hok : okP x y z = true := by simp [okP, q1, q2, q3]
  refine R.aload_n (j := 0) (i := 0) hc rfl rfl dX7_puddle_38 ?_
  refine R.get hc gf_X7_7_r dX7_puddle_39 (hR.1) rfl ?_
  refine R.iconst hc ic_0 dX7_puddle_42 ?_
  refine R.ialdV hc hR.g0 (by omega) (by decide) dX7_puddle_43 (hN.1) ?_
  refine R.bipush hc bp_7 dX7_puddle_44 ?_
  refine R.icmpN_ne (tgt := 52) hc dX7_puddle_46 (by decide) (by omega) (by omega) (fun h7 => ?_) (fun h7 => ?_)
  rotate_left
  · refine R.bipush hc bp_m3 dX7_puddle_49 ?_
    have e9 : (-3) = s_puddle np x y z := by simp [s_puddle, hok, h7]
    exact R.iret hc rfl dX7_puddle_51 ⟨rfl, congrArg (fun z => some (Value.int z)) e9, by rw [if_neg (by omega)]; exact ⟨A, L, I, hR, hS⟩, hF⟩
  obtain ⟨i1, rfl, _, g1, t1⟩ := inR_of (by decide) (by decide) q1
  obtain ⟨i2, rfl, _, g2, t2⟩ := inR_of (by decide) (by decide) q2
  obtain ⟨i3, rfl, _, g3, t3⟩ := inR_of (by decide) (by decide) q3
  rw [t1, t2, t3] at hc
  refine R.aload_n (j := 0) (i := 0) hc rfl rfl dX7_puddle_52 ?_
  refine R.iload_n (j := 1) (i := 1) hc rfl rfl dX7_puddle_53 ?_
  refine R.iload_n (j := 2) (i := 2) hc rfl rfl dX7_puddle_54 ?_
  refine R.iload_n (j := 3) (i := 3) hc rfl rfl dX7_puddle_55 ?_
  refine R.cVu hc m_X7_puddleComes lk_X7_119 dX7_puddle_56 (c_X7_puddleComes l (d + 1) X n hR hN (by omega) _ _ _) (hR.1) rfl rfl rfl (by omega) ⟨Nat.le_refl _, Nat.le_refl _⟩ (Nat.le_of_ble_eq_true rfl) (fun σ hX => ?_)
  obtain ⟨B, hR, hN, hA, hE⟩ := hX
  have hF := hF.tr hE
  refine R.aload_n (j := 0) (i := 0) hc rfl rfl dX7_puddle_59 ?_
  refine R.get hc gf_X7_7_r dX7_puddle_60 (hR.1) rfl ?_
  refine R.iconst hc ic_0 dX7_puddle_63 ?_
  refine R.ialdV hc hR.g0 (by omega) (by decide) dX7_puddle_64 (hN.1) ?_
  refine R.iconst hc ic_1 dX7_puddle_65 ?_
  first | refine R.isubN hc (by omega) dX7_puddle_66 ?_ | refine R.isub hc dX7_puddle_66 ?_
  have e9 : nI (np + 1 - 1) = s_puddle np (nI i1) (nI i2) (nI i3) := by simp [s_puddle, hok, show np < 7 by omega]
  exact R.iret hc rfl dX7_puddle_67 ⟨rfl, congrArg (fun z => some (Value.int z)) e9, by rw [if_pos ⟨hok, by omega⟩]; exact ⟨B, L, _, hR, hS.nx hN UdR.nil rfl (by decide) (fun k hk => hA k (by omega)) (fun k hk => if_neg (by omega))⟩, hF⟩
set_option maxHeartbeats 4000000 in
set_option maxRecDepth 100000 in
theorem c_X7_person (l : Launch) (d : Nat) (X : Nat × (Nat → Int32)) (n : Nat) {σ : Wd} {a : SA} {np nq hr dr : Nat} {hs : List SN} {im : IM} {tp : Nat → Nat} {tl : Nat} {ln sz : Nat → Nat} {it : Nat → Nat → Int64} (hC : RA σ a np nq hr dr hs im tp tl ln sz it) (hI : WI a np nq hr dr hs im tp tl ln sz) (x y z : Int32) : CN l yX7_person cX7_person 4 (some .int) ((d + 2)) X n [.ref 42, .int x, .int y, .int z] σ (fun r σ' => r = some (.int (s_person nq x y z)) ∧ ((if okQ x y z = true ∧ nq < 6 then RA σ' (a4 a nq (tN x) (tN y) (tN z)) np (nq + 1) hr dr [] im tp tl ln sz it else RA σ' a np nq hr dr hs im tp tl ln sz it) ∧ Eqo 42 17 σ σ')) := by
  refine CN.of (by decide) [some (.ref 42), some (.int x), some (.int y), some (.int z)] (fun _ => Nat.le_of_ble_eq_true rfl) (fun _ => rfl) (fun cx hc => ?_)
  obtain ⟨A, L, I, hR, hS⟩ := hC
  obtain ⟨hW, hh, hdr, hwh, hwi, hU, hV⟩ := hI
  have hN := hS.n
  have hW1 := hW.1
  have hW2 := hW.2.1
  have hF : Eqo 42 17 σ σ := Eqo.rf
  refine R.iload_n (j := 1) (i := 1) hc rfl rfl dX7_person_0 ?_
  refine R.i2l hc dX7_person_1 ?_
  refine R.lconst (j := 0) (v := lN 0) hc rfl dX7_person_2 ?_
  refine R.ldc2 hc kn_X7_115 dX7_person_3 ?_
  refine R.cSr hc m_X7_in lk_X7_59 dX7_person_6 (c_X7_in l (d + 1) X n _ _ _) rfl rfl (by omega) ⟨Nat.le_refl _, Nat.le_refl _⟩ (Nat.le_of_ble_eq_true rfl) ?_
  rw [inL_R (by decide) (by decide)]
  refine R.ifB_eq (tgt := 36) hc dX7_person_9 (by decide) (fun q1 => ?_) (fun q1 => ?_)
  · refine R.iconst hc ic_m1 dX7_person_36 ?_
    have e9 : (-1) = s_person nq x y z := by simp [s_person, okQ, q1]
    exact R.iret hc rfl dX7_person_37 ⟨rfl, congrArg (fun z => some (Value.int z)) e9, by rw [if_neg (by simp [okQ, q1])]; exact ⟨A, L, I, hR, hS⟩, hF⟩
  refine R.iload_n (j := 2) (i := 2) hc rfl rfl dX7_person_12 ?_
  refine R.i2l hc dX7_person_13 ?_
  refine R.lconst (j := 0) (v := lN 0) hc rfl dX7_person_14 ?_
  refine R.ldc2 hc kn_X7_122 dX7_person_15 ?_
  refine R.cSr hc m_X7_in lk_X7_59 dX7_person_18 (c_X7_in l (d + 1) X n _ _ _) rfl rfl (by omega) ⟨Nat.le_refl _, Nat.le_refl _⟩ (Nat.le_of_ble_eq_true rfl) ?_
  rw [inL_R (by decide) (by decide)]
  refine R.ifB_eq (tgt := 36) hc dX7_person_21 (by decide) (fun q2 => ?_) (fun q2 => ?_)
  · refine R.iconst hc ic_m1 dX7_person_36 ?_
    have e9 : (-1) = s_person nq x y z := by simp [s_person, okQ, q2]
    exact R.iret hc rfl dX7_person_37 ⟨rfl, congrArg (fun z => some (Value.int z)) e9, by rw [if_neg (by simp [okQ, q2])]; exact ⟨A, L, I, hR, hS⟩, hF⟩
  refine R.iload_n (j := 3) (i := 3) hc rfl rfl dX7_person_24 ?_
  refine R.i2l hc dX7_person_25 ?_
  refine R.lconst (j := 1) (v := lN 1) hc rfl dX7_person_26 ?_
  refine R.ldc2 hc kn_X7_124 dX7_person_27 ?_
  refine R.cSr hc m_X7_in lk_X7_59 dX7_person_30 (c_X7_in l (d + 1) X n _ _ _) rfl rfl (by omega) ⟨Nat.le_refl _, Nat.le_refl _⟩ (Nat.le_of_ble_eq_true rfl) ?_
  rw [inL_R (by decide) (by decide)]
  refine R.ifB_ne (tgt := 38) hc dX7_person_33 (by decide) (fun q3 => ?_) (fun q3 => ?_)
  rotate_left
  · refine R.iconst hc ic_m1 dX7_person_36 ?_
    have e9 : (-1) = s_person nq x y z := by simp [s_person, okQ, q3]
    exact R.iret hc rfl dX7_person_37 ⟨rfl, congrArg (fun z => some (Value.int z)) e9, by rw [if_neg (by simp [okQ, q3])]; exact ⟨A, L, I, hR, hS⟩, hF⟩
  have hok : okQ x y z = true := by simp [okQ, q1, q2, q3]
  refine R.aload_n (j := 0) (i := 0) hc rfl rfl dX7_person_38 ?_
  refine R.get hc gf_X7_7_r dX7_person_39 (hR.1) rfl ?_
  refine R.iconst hc ic_1 dX7_person_42 ?_
  refine R.ialdV hc hR.g0 (by omega) (by decide) dX7_person_43 (hN.2.1) ?_
  refine R.bipush hc bp_6 dX7_person_44 ?_
  refine R.icmpN_ne (tgt := 52) hc dX7_person_46 (by decide) (by omega) (by omega) (fun h7 => ?_) (fun h7 => ?_)
  rotate_left
  · refine R.bipush hc bp_m3 dX7_person_49 ?_
    have e9 : (-3) = s_person nq x y z := by simp [s_person, hok, h7]
    exact R.iret hc rfl dX7_person_51 ⟨rfl, congrArg (fun z => some (Value.int z)) e9, by rw [if_neg (by omega)]; exact ⟨A, L, I, hR, hS⟩, hF⟩
  obtain ⟨i1, rfl, _, g1, t1⟩ := inR_of (by decide) (by decide) q1
  obtain ⟨i2, rfl, _, g2, t2⟩ := inR_of (by decide) (by decide) q2
  obtain ⟨i3, rfl, _, g3, t3⟩ := inR_of (by decide) (by decide) q3
  rw [t1, t2, t3] at hc
  refine R.aload_n (j := 0) (i := 0) hc rfl rfl dX7_person_52 ?_
  refine R.iload_n (j := 1) (i := 1) hc rfl rfl dX7_person_53 ?_
  refine R.iload_n (j := 2) (i := 2) hc rfl rfl dX7_person_54 ?_
  refine R.iload_n (j := 3) (i := 3) hc rfl rfl dX7_person_55 ?_
  refine R.cVu hc m_X7_personComes lk_X7_126 dX7_person_56 (c_X7_personComes l d X n hR hN hW1 (by omega) _ _ _) (hR.1) rfl rfl rfl (by omega) ⟨Nat.le_refl _, Nat.le_refl _⟩ (Nat.le_of_ble_eq_true rfl) (fun σ hX => ?_)
  obtain ⟨B, hR, hN, hA, hE⟩ := hX
  have hF := hF.tr hE
  refine R.aload_n (j := 0) (i := 0) hc rfl rfl dX7_person_59 ?_
  refine R.get hc gf_X7_7_r dX7_person_60 (hR.1) rfl ?_
  refine R.iconst hc ic_1 dX7_person_63 ?_
  refine R.ialdV hc hR.g0 (by omega) (by decide) dX7_person_64 (hN.2.1) ?_
  refine R.iconst hc ic_1 dX7_person_65 ?_
  first | refine R.isubN hc (by omega) dX7_person_66 ?_ | refine R.isub hc dX7_person_66 ?_
  have e9 : nI (nq + 1 - 1) = s_person nq (nI i1) (nI i2) (nI i3) := by simp [s_person, hok, show nq < 6 by omega]
  exact R.iret hc rfl dX7_person_67 ⟨rfl, congrArg (fun z => some (Value.int z)) e9, by rw [if_pos ⟨hok, by omega⟩]; exact ⟨B, L, _, hR, hS.nx hN UdR.nil rfl (by decide) (fun k hk => hA k (by omega)) (fun k hk => if_neg (by omega))⟩, hF⟩
set_option maxHeartbeats 4000000 in
set_option maxRecDepth 100000 in
theorem c_X7_show (l : Launch) (d : Nat) (X : Nat × (Nat → Int32)) (n : Nat) {σ : Wd} {a : SA} {np nq hr dr : Nat} {hs : List SN} {im : IM} {tp : Nat → Nat} {tl : Nat} {ln sz : Nat → Nat} {it : Nat → Nat → Int64} (hC : RA σ a np nq hr dr hs im tp tl ln sz it) (hI : WI a np nq hr dr hs im tp tl ln sz) (p s : Int32) : CN l yX7_show cX7_show 4 (some .int) ((d + 2)) X n [.ref 42, .int p, .int s] σ (fun r σ' => r = some (.int (s_show a np p s)) ∧ ((if okS np p s = true then RA σ' (a2 a 1 (tN p) (tN s)) np nq hr dr hs im tp tl ln sz it else RA σ' a np nq hr dr hs im tp tl ln sz it) ∧ Eqo 42 17 σ σ')) := by
  refine CN.of (by decide) [some (.ref 42), some (.int p), some (.int s), none] (fun _ => Nat.le_of_ble_eq_true rfl) (fun _ => rfl) (fun cx hc => ?_)
  obtain ⟨A, L, I, hR, hS⟩ := hC
  obtain ⟨hW, hh, hdr, hwh, hwi, hU, hV⟩ := hI
  have hN := hS.n
  have hW1 := hW.1
  have hW2 := hW.2.1
  have hF : Eqo 42 17 σ σ := Eqo.rf
  refine R.aload_n (j := 0) (i := 0) hc rfl rfl dX7_show_0 ?_
  refine R.iload_n (j := 1) (i := 1) hc rfl rfl dX7_show_1 ?_
  refine R.cVr hc m_X7_isPuddle lk_X7_74 dX7_show_2 (c_X7_isPuddle l d X n hR hN hW _) (hR.1) rfl rfl rfl (by omega) ⟨Nat.le_refl _, Nat.le_refl _⟩ (Nat.le_of_ble_eq_true rfl) ?_
  refine R.ifB_eq (tgt := 20) hc dX7_show_5 (by decide) (fun q1 => ?_) (fun q1 => ?_)
  · refine R.iconst hc ic_m1 dX7_show_20 ?_
    have e9 : (-1) = s_show a np p s := by simp [s_show, okS, q1]
    exact R.iret hc rfl dX7_show_21 ⟨rfl, congrArg (fun z => some (Value.int z)) e9, by rw [if_neg (by simp [okS, q1])]; exact ⟨A, L, I, hR, hS⟩, hF⟩
  refine R.iload_n (j := 2) (i := 2) hc rfl rfl dX7_show_8 ?_
  refine R.i2l hc dX7_show_9 ?_
  refine R.lconst (j := 0) (v := lN 0) hc rfl dX7_show_10 ?_
  refine R.ldc2 hc kn_X7_115 dX7_show_11 ?_
  refine R.cSr hc m_X7_in lk_X7_59 dX7_show_14 (c_X7_in l (d + 1) X n _ _ _) rfl rfl (by omega) ⟨Nat.le_refl _, Nat.le_refl _⟩ (Nat.le_of_ble_eq_true rfl) ?_
  rw [inL_R (by decide) (by decide)]
  refine R.ifB_ne (tgt := 22) hc dX7_show_17 (by decide) (fun q2 => ?_) (fun q2 => ?_)
  rotate_left
  · refine R.iconst hc ic_m1 dX7_show_20 ?_
    have e9 : (-1) = s_show a np p s := by simp [s_show, okS, q2]
    exact R.iret hc rfl dX7_show_21 ⟨rfl, congrArg (fun z => some (Value.int z)) e9, by rw [if_neg (by simp [okS, q2])]; exact ⟨A, L, I, hR, hS⟩, hF⟩
  have hok : okS np p s = true := by simp [okS, q1, q2]
  obtain ⟨i1, rfl, g1, t1⟩ := inI_tN (by omega) q1
  obtain ⟨i2, rfl, _, g2, t2⟩ := inR_of (by decide) (by decide) q2
  have hA : s_show a np (nI i1) (nI i2) = nI (a 1 i1) := by simp [s_show, hok, t1]
  rw [hA, t1, t2] at hc
  refine R.aload_n (j := 0) (i := 0) hc rfl rfl dX7_show_22 ?_
  refine R.iload_n (j := 1) (i := 1) hc rfl rfl dX7_show_23 ?_
  refine R.iconst hc ic_1 dX7_show_24 ?_
  refine R.cVr hc m_X7_ofPuddle lk_X7_63 dX7_show_25 (n_X7_ofPuddle l (d + 1) X n hR hN hW (by omega) (by omega)) (hR.1) rfl rfl rfl (by omega) ⟨Nat.le_refl _, Nat.le_refl _⟩ (Nat.le_of_ble_eq_true rfl) ?_
  refine R.istn3 hc dX7_show_28 (by decide) rfl ?_
  refine R.aload_n (j := 0) (i := 0) hc rfl rfl dX7_show_29 ?_
  refine R.get hc gf_X7_7_r dX7_show_30 (hR.1) rfl ?_
  refine R.iconst hc ic_4 dX7_show_33 ?_
  refine R.iconst hc ic_3 dX7_show_34 ?_
  refine R.iload_n (j := 1) (i := 1) hc rfl rfl dX7_show_35 ?_
  first | refine R.imulN hc dX7_show_36 ?_ | refine R.imul hc dX7_show_36 ?_
  first | refine R.iaddN hc dX7_show_37 ?_ | refine R.iadd hc dX7_show_37 ?_
  refine R.iconst hc ic_1 dX7_show_38 ?_
  first | refine R.iaddN hc dX7_show_39 ?_ | refine R.iadd hc dX7_show_39 ?_
  refine R.iload_n (j := 2) (i := 2) hc rfl rfl dX7_show_40 ?_
  refine R.iastG hc dX7_show_41 hR.g0 (by omega) (by decide) (fun σ hX hE => ?_)
  have hR := hR.w0 hX hE
  have hF := hF.tr (hE.wid (by omega))
  refine R.iload_n (j := 3) (i := 3) hc rfl rfl dX7_show_42 ?_
  exact R.iret hc rfl dX7_show_43 ⟨rfl, rfl, by rw [if_pos hok]; exact ⟨_, L, I, hR, hS.nx (by rw [A2_s]; exact hN.wp (by omega) (by omega)) (by rw [A2_n (by omega)]; exact hS.u) hS.un hS.ul (fun k hk => A2_n (by omega)) (fun _ _ => rfl)⟩, hF⟩
set_option maxHeartbeats 4000000 in
set_option maxRecDepth 100000 in
theorem c_X7_of (l : Launch) (d : Nat) (X : Nat × (Nat → Int32)) (n : Nat) {σ : Wd} {a : SA} {np nq hr dr : Nat} {hs : List SN} {im : IM} {tp : Nat → Nat} {tl : Nat} {ln sz : Nat → Nat} {it : Nat → Nat → Int64} (hC : RA σ a np nq hr dr hs im tp tl ln sz it) (hI : WI a np nq hr dr hs im tp tl ln sz) (p w : Int32) : CN l yX7_of cX7_of 3 (some .int) ((d + 4)) X n [.ref 42, .int p, .int w] σ (fun r σ' => r = some (.int (s_of a np nq hr p w)) ∧ (RA σ' a np nq hr dr hs im tp tl ln sz it ∧ Eqo 42 17 σ σ')) := by
  refine CN.of (by decide) [some (.ref 42), some (.int p), some (.int w)] (fun _ => Nat.le_of_ble_eq_true rfl) (fun _ => rfl) (fun cx hc => ?_)
  obtain ⟨A, L, I, hR, hS⟩ := hC
  obtain ⟨hW, hh, hdr, hwh, hwi, hU, hV⟩ := hI
  have hN := hS.n
  have hW1 := hW.1
  have hW2 := hW.2.1
  have hF : Eqo 42 17 σ σ := Eqo.rf
  refine R.aload_n (j := 0) (i := 0) hc rfl rfl dX7_of_0 ?_
  refine R.iload_n (j := 1) (i := 1) hc rfl rfl dX7_of_1 ?_
  refine R.cVr hc m_X7_isPuddle lk_X7_74 dX7_of_2 (c_X7_isPuddle l (d + 2) X n hR hN hW _) (hR.1) rfl rfl rfl (by omega) ⟨Nat.le_refl _, Nat.le_refl _⟩ (Nat.le_of_ble_eq_true rfl) ?_
  refine R.ifB_eq (tgt := 20) hc dX7_of_5 (by decide) (fun q1 => ?_) (fun q1 => ?_)
  · refine R.iconst hc ic_m1 dX7_of_20 ?_
    have e9 : (-1) = s_of a np nq hr p w := by simp [s_of, q1]
    exact R.iret hc rfl dX7_of_21 ⟨rfl, congrArg (fun z => some (Value.int z)) e9, ⟨A, L, I, hR, hS⟩, hF⟩
  refine R.iload_n (j := 2) (i := 2) hc rfl rfl dX7_of_8 ?_
  refine R.i2l hc dX7_of_9 ?_
  refine R.lconst (j := 0) (v := lN 0) hc rfl dX7_of_10 ?_
  refine R.ldc2 hc kn_X7_113 dX7_of_11 ?_
  refine R.cSr hc m_X7_in lk_X7_59 dX7_of_14 (c_X7_in l (d + 3) X n _ _ _) rfl rfl (by omega) ⟨Nat.le_refl _, Nat.le_refl _⟩ (Nat.le_of_ble_eq_true rfl) ?_
  rw [inL_R (by decide) (by decide)]
  refine R.ifB_ne (tgt := 22) hc dX7_of_17 (by decide) (fun q2 => ?_) (fun q2 => ?_)
  rotate_left
  · refine R.iconst hc ic_m1 dX7_of_20 ?_
    have e9 : (-1) = s_of a np nq hr p w := by simp [s_of, q2]
    exact R.iret hc rfl dX7_of_21 ⟨rfl, congrArg (fun z => some (Value.int z)) e9, ⟨A, L, I, hR, hS⟩, hF⟩
  obtain ⟨i1, rfl, g1, t1⟩ := inI_tN (by omega) q1
  obtain ⟨i2, rfl, _, g2, t2⟩ := inR_of (by decide) (by decide) q2
  have hA : s_of a np nq hr (nI i1) (nI i2) = ofS a np nq hr i1 i2 := by simp [s_of, q1, q2, t1, t2]
  rw [hA] at hc
  refine R.iload_n (j := 2) (i := 2) hc rfl rfl dX7_of_22 ?_
  refine R.iconst hc ic_3 dX7_of_23 ?_
  refine R.icmpN_ge (tgt := 36) hc dX7_of_24 (by decide) (by omega) (by omega) (fun z => ?_) (fun z => ?_)
  rotate_left
  · refine R.aload_n (j := 0) (i := 0) hc rfl rfl dX7_of_27 ?_
    refine R.iload_n (j := 1) (i := 1) hc rfl rfl dX7_of_28 ?_
    refine R.iload_n (j := 2) (i := 2) hc rfl rfl dX7_of_29 ?_
    refine R.cVr hc m_X7_ofPuddle lk_X7_63 dX7_of_30 (n_X7_ofPuddle l (d + 3) X n hR hN hW (by omega) (by omega)) (hR.1) rfl rfl rfl (by omega) ⟨Nat.le_refl _, Nat.le_refl _⟩ (Nat.le_of_ble_eq_true rfl) ?_
    refine R.goto (tgt := 54) hc dX7_of_33 (by decide) ?_
    have e9 : nI (a i2 i1) = ofS a np nq hr i1 i2 := by
      rcases (by omega : i2 = 0 ∨ i2 = 1 ∨ i2 = 2) with rfl | rfl | rfl <;> rfl
    exact R.iret hc rfl dX7_of_54 ⟨rfl, congrArg (fun z => some (Value.int z)) e9, ⟨A, L, I, hR, hS⟩, hF⟩
  refine R.iload_n (j := 2) (i := 2) hc rfl rfl dX7_of_36 ?_
  refine R.iconst hc ic_3 dX7_of_37 ?_
  refine R.icmpN_ne (tgt := 49) hc dX7_of_38 (by decide) (by omega) (by omega) (fun y => ?_) (fun y => ?_)
  · have e4 : i2 = 4 := by omega
    subst e4
    refine R.aload_n (j := 0) (i := 0) hc rfl rfl dX7_of_49 ?_
    refine R.iload_n (j := 1) (i := 1) hc rfl rfl dX7_of_50 ?_
    refine R.cVr hc m_X7_less lk_X7_99 dX7_of_51 (c_X7_less l d X n hR hN hW (by omega) (by omega)) (hR.1) rfl rfl rfl (by omega) ⟨Nat.le_refl _, Nat.le_refl _⟩ (Nat.le_of_ble_eq_true rfl) ?_
    exact R.iret hc rfl dX7_of_54 ⟨rfl, rfl, ⟨A, L, I, hR, hS⟩, hF⟩
  · subst y
    refine R.aload_n (j := 0) (i := 0) hc rfl rfl dX7_of_41 ?_
    refine R.iload_n (j := 1) (i := 1) hc rfl rfl dX7_of_42 ?_
    refine R.cVr hc m_X7_whoClaimed lk_X7_84 dX7_of_43 (c_X7_whoClaimed l (d + 1) X n hR hN hW (by omega)) (hR.1) rfl rfl rfl (by omega) ⟨Nat.le_refl _, Nat.le_refl _⟩ (Nat.le_of_ble_eq_true rfl) ?_
    rw [whoL_F hW]
    refine R.goto (tgt := 54) hc dX7_of_46 (by decide) ?_
    exact R.iret hc rfl dX7_of_54 ⟨rfl, rfl, ⟨A, L, I, hR, hS⟩, hF⟩
set_option maxHeartbeats 4000000 in
set_option maxRecDepth 100000 in
theorem c_X7_at (l : Launch) (d : Nat) (X : Nat × (Nat → Int32)) (n : Nat) {σ : Wd} {a : SA} {np nq hr dr : Nat} {hs : List SN} {im : IM} {tp : Nat → Nat} {tl : Nat} {ln sz : Nat → Nat} {it : Nat → Nat → Int64} (hC : RA σ a np nq hr dr hs im tp tl ln sz it) (hI : WI a np nq hr dr hs im tp tl ln sz) (p w : Int32) : CN l yX7_at cX7_at 3 (some .int) ((d + 5)) X n [.ref 42, .int p, .int w] σ (fun r σ' => r = some (.int (s_at a np nq p w)) ∧ (RA σ' a np nq hr dr hs im tp tl ln sz it ∧ Eqo 42 17 σ σ')) := by
  refine CN.of (by decide) [some (.ref 42), some (.int p), some (.int w)] (fun _ => Nat.le_of_ble_eq_true rfl) (fun _ => rfl) (fun cx hc => ?_)
  obtain ⟨A, L, I, hR, hS⟩ := hC
  obtain ⟨hW, hh, hdr, hwh, hwi, hU, hV⟩ := hI
  have hN := hS.n
  have hW1 := hW.1
  have hW2 := hW.2.1
  have hF : Eqo 42 17 σ σ := Eqo.rf
  refine R.aload_n (j := 0) (i := 0) hc rfl rfl dX7_at_0 ?_
  refine R.iload_n (j := 1) (i := 1) hc rfl rfl dX7_at_1 ?_
  refine R.cVr hc m_X7_isPerson lk_X7_129 dX7_at_2 (c_X7_isPerson l (d + 3) X n hR hN hW _) (hR.1) rfl rfl rfl (by omega) ⟨Nat.le_refl _, Nat.le_refl _⟩ (Nat.le_of_ble_eq_true rfl) ?_
  refine R.ifB_eq (tgt := 20) hc dX7_at_5 (by decide) (fun q1 => ?_) (fun q1 => ?_)
  · refine R.iconst hc ic_m1 dX7_at_20 ?_
    have e9 : (-1) = s_at a np nq p w := by simp [s_at, q1]
    exact R.iret hc rfl dX7_at_21 ⟨rfl, congrArg (fun z => some (Value.int z)) e9, ⟨A, L, I, hR, hS⟩, hF⟩
  refine R.iload_n (j := 2) (i := 2) hc rfl rfl dX7_at_8 ?_
  refine R.i2l hc dX7_at_9 ?_
  refine R.lconst (j := 0) (v := lN 0) hc rfl dX7_at_10 ?_
  refine R.ldc2 hc kn_X7_113 dX7_at_11 ?_
  refine R.cSr hc m_X7_in lk_X7_59 dX7_at_14 (c_X7_in l (d + 4) X n _ _ _) rfl rfl (by omega) ⟨Nat.le_refl _, Nat.le_refl _⟩ (Nat.le_of_ble_eq_true rfl) ?_
  rw [inL_R (by decide) (by decide)]
  refine R.ifB_ne (tgt := 22) hc dX7_at_17 (by decide) (fun q2 => ?_) (fun q2 => ?_)
  rotate_left
  · refine R.iconst hc ic_m1 dX7_at_20 ?_
    have e9 : (-1) = s_at a np nq p w := by simp [s_at, q2]
    exact R.iret hc rfl dX7_at_21 ⟨rfl, congrArg (fun z => some (Value.int z)) e9, ⟨A, L, I, hR, hS⟩, hF⟩
  obtain ⟨i1, rfl, g1, t1⟩ := inI_tN (by omega) q1
  obtain ⟨i2, rfl, _, g2, t2⟩ := inR_of (by decide) (by decide) q2
  have hA : s_at a np nq (nI i1) (nI i2) = atS a np nq i1 i2 := by simp [s_at, q1, q2, t1, t2]
  rw [hA] at hc
  refine R.iload_n (j := 2) (i := 2) hc rfl rfl dX7_at_22 ?_
  refine R.iconst hc ic_4 dX7_at_23 ?_
  refine R.icmpN_ge (tgt := 36) hc dX7_at_24 (by decide) (by omega) (by omega) (fun z => ?_) (fun z => ?_)
  · have e4 : i2 = 4 := by omega
    subst e4
    refine R.aload_n (j := 0) (i := 0) hc rfl rfl dX7_at_36 ?_
    refine R.iload_n (j := 1) (i := 1) hc rfl rfl dX7_at_37 ?_
    refine R.cVr hc m_X7_fitsFor lk_X7_132 dX7_at_38 (c_X7_fitsFor l d X n hR hN hW (by omega)) (hR.1) rfl rfl rfl (by omega) ⟨Nat.le_refl _, Nat.le_refl _⟩ (Nat.le_of_ble_eq_true rfl) ?_
    exact R.iret hc rfl dX7_at_41 ⟨rfl, rfl, ⟨A, L, I, hR, hS⟩, hF⟩
  · refine R.aload_n (j := 0) (i := 0) hc rfl rfl dX7_at_27 ?_
    refine R.iload_n (j := 1) (i := 1) hc rfl rfl dX7_at_28 ?_
    refine R.iload_n (j := 2) (i := 2) hc rfl rfl dX7_at_29 ?_
    refine R.cVr hc m_X7_ofPerson lk_X7_67 dX7_at_30 (c_X7_ofPerson l (d + 4) X n hR (by omega) (by omega)) (hR.1) rfl rfl rfl (by omega) ⟨Nat.le_refl _, Nat.le_refl _⟩ (Nat.le_of_ble_eq_true rfl) ?_
    refine R.goto (tgt := 41) hc dX7_at_33 (by decide) ?_
    have e9 : A 0 (25 + 4 * i1 + i2) = atS a np nq i1 i2 := by
      rcases (by omega : i2 = 0 ∨ i2 = 1 ∨ i2 = 2 ∨ i2 = 3) with rfl | rfl | rfl | rfl
      · exact hN.q (k := 0) (by omega) g1
      · exact hN.q (k := 1) (by omega) g1
      · exact hN.q (k := 2) (by omega) g1
      · exact hN.c g1
    exact R.iret hc rfl dX7_at_41 ⟨rfl, congrArg (fun z => some (Value.int z)) e9, ⟨A, L, I, hR, hS⟩, hF⟩
set_option maxHeartbeats 4000000 in
set_option maxRecDepth 100000 in
theorem c_X7_count (l : Launch) (d : Nat) (X : Nat × (Nat → Int32)) (n : Nat) {σ : Wd} {a : SA} {np nq hr dr : Nat} {hs : List SN} {im : IM} {tp : Nat → Nat} {tl : Nat} {ln sz : Nat → Nat} {it : Nat → Nat → Int64} (hC : RA σ a np nq hr dr hs im tp tl ln sz it) (hI : WI a np nq hr dr hs im tp tl ln sz) (w : Int32) : CN l yX7_count cX7_count 2 (some .int) ((d + 4)) X n [.ref 42, .int w] σ (fun r σ' => r = some (.int (s_count a np nq hr hs.length w)) ∧ (RA σ' a np nq hr dr hs im tp tl ln sz it ∧ Eqo 42 17 σ σ')) := by
  refine CN.of (by decide) [some (.ref 42), some (.int w)] (fun _ => Nat.le_of_ble_eq_true rfl) (fun _ => rfl) (fun cx hc => ?_)
  obtain ⟨A, L, I, hR, hS⟩ := hC
  obtain ⟨hW, hh, hdr, hwh, hwi, hU, hV⟩ := hI
  have hN := hS.n
  have hW1 := hW.1
  have hW2 := hW.2.1
  have hF : Eqo 42 17 σ σ := Eqo.rf
  refine R.iload_n (j := 1) (i := 1) hc rfl rfl dX7_count_0 ?_
  cases q2 : inR w 0 7 with
  | false =>
    refine R.tabOut (tgt := 80) hc dX7_count_1 (by have := inR_out (by decide) q2; omega) (by decide) ?_
    refine R.iconst hc ic_m1 dX7_count_80 ?_
    have e9 : (-1) = s_count a np nq hr hs.length w := by simp [s_count, q2]
    exact R.iret hc rfl dX7_count_81 ⟨rfl, congrArg (fun z => some (Value.int z)) e9, ⟨A, L, I, hR, hS⟩, hF⟩
  | true =>
    obtain ⟨i2, rfl, _, g2, t2⟩ := inR_of (by decide) (by decide) q2
    have hA : s_count a np nq hr hs.length (nI i2) = cntS a np nq hr hs.length i2 := by simp [s_count, q2, t2]
    rw [hA] at hc
    rcases (by omega : i2 = 0 ∨ i2 = 1 ∨ i2 = 2 ∨ i2 = 3 ∨ i2 = 4 ∨ i2 = 5 ∨ i2 = 6 ∨ i2 = 7) with rfl | rfl | rfl | rfl | rfl | rfl | rfl | rfl
    · refine R.tabIn (x := nI 0) (off := 47) (tgt := 48) hc dX7_count_1 (by decide) (by decide) (by decide) (by decide) ?_
      refine R.aload_n (j := 0) (i := 0) hc rfl rfl dX7_count_48 ?_
      refine R.get hc gf_X7_7_r dX7_count_49 (hR.1) rfl ?_
      refine R.iload_n (j := 1) (i := 1) hc rfl rfl dX7_count_52 ?_
      refine R.ialdV hc hR.g0 (by omega) (by decide) dX7_count_53 (hN.1) ?_
      exact R.iret hc rfl dX7_count_54 ⟨rfl, rfl, ⟨A, L, I, hR, hS⟩, hF⟩
    · refine R.tabIn (x := nI 1) (off := 47) (tgt := 48) hc dX7_count_1 (by decide) (by decide) (by decide) (by decide) ?_
      refine R.aload_n (j := 0) (i := 0) hc rfl rfl dX7_count_48 ?_
      refine R.get hc gf_X7_7_r dX7_count_49 (hR.1) rfl ?_
      refine R.iload_n (j := 1) (i := 1) hc rfl rfl dX7_count_52 ?_
      refine R.ialdV hc hR.g0 (by omega) (by decide) dX7_count_53 (hN.2.1) ?_
      exact R.iret hc rfl dX7_count_54 ⟨rfl, rfl, ⟨A, L, I, hR, hS⟩, hF⟩
    · refine R.tabIn (x := nI 2) (off := 47) (tgt := 48) hc dX7_count_1 (by decide) (by decide) (by decide) (by decide) ?_
      refine R.aload_n (j := 0) (i := 0) hc rfl rfl dX7_count_48 ?_
      refine R.get hc gf_X7_7_r dX7_count_49 (hR.1) rfl ?_
      refine R.iload_n (j := 1) (i := 1) hc rfl rfl dX7_count_52 ?_
      refine R.ialdV hc hR.g0 (by omega) (by decide) dX7_count_53 (hN.2.2.1) ?_
      exact R.iret hc rfl dX7_count_54 ⟨rfl, rfl, ⟨A, L, I, hR, hS⟩, hF⟩
    · refine R.tabIn (x := nI 3) (off := 54) (tgt := 55) hc dX7_count_1 (by decide) (by decide) (by decide) (by decide) ?_
      refine R.aload_n (j := 0) (i := 0) hc rfl rfl dX7_count_55 ?_
      refine R.cVr hc m_X7_deepAll lk_X7_135 dX7_count_56 (c_X7_deepAll l (d + 1) X n hR hN hW) (hR.1) rfl rfl rfl (by omega) ⟨Nat.le_refl _, Nat.le_refl _⟩ (Nat.le_of_ble_eq_true rfl) ?_
      exact R.iret hc rfl dX7_count_59 ⟨rfl, rfl, ⟨A, L, I, hR, hS⟩, hF⟩
    · refine R.tabIn (x := nI 4) (off := 59) (tgt := 60) hc dX7_count_1 (by decide) (by decide) (by decide) (by decide) ?_
      refine R.aload_n (j := 0) (i := 0) hc rfl rfl dX7_count_60 ?_
      refine R.cVr hc m_X7_dryOnes lk_X7_139 dX7_count_61 (c_X7_dryOnes l d X n hR hN hW) (hR.1) rfl rfl rfl (by omega) ⟨Nat.le_refl _, Nat.le_refl _⟩ (Nat.le_of_ble_eq_true rfl) ?_
      exact R.iret hc rfl dX7_count_64 ⟨rfl, rfl, ⟨A, L, I, hR, hS⟩, hF⟩
    · refine R.tabIn (x := nI 5) (off := 64) (tgt := 65) hc dX7_count_1 (by decide) (by decide) (by decide) (by decide) ?_
      refine R.aload_n (j := 0) (i := 0) hc rfl rfl dX7_count_65 ?_
      refine R.cVr hc m_X7_servedNow lk_X7_142 dX7_count_66 (c_X7_servedNow l (d + 1) X n hR hN hW) (hR.1) rfl rfl rfl (by omega) ⟨Nat.le_refl _, Nat.le_refl _⟩ (Nat.le_of_ble_eq_true rfl) ?_
      exact R.iret hc rfl dX7_count_69 ⟨rfl, rfl, ⟨A, L, I, hR, hS⟩, hF⟩
    · refine R.tabIn (x := nI 6) (off := 69) (tgt := 70) hc dX7_count_1 (by decide) (by decide) (by decide) (by decide) ?_
      refine R.aload_n (j := 0) (i := 0) hc rfl rfl dX7_count_70 ?_
      refine R.cVr hc m_X7_claimedOnes lk_X7_145 dX7_count_71 (c_X7_claimedOnes l (d + 1) X n hR hN hW) (hR.1) rfl rfl rfl (by omega) ⟨Nat.le_refl _, Nat.le_refl _⟩ (Nat.le_of_ble_eq_true rfl) ?_
      exact R.iret hc rfl dX7_count_74 ⟨rfl, rfl, ⟨A, L, I, hR, hS⟩, hF⟩
    · refine R.tabIn (x := nI 7) (off := 74) (tgt := 75) hc dX7_count_1 (by decide) (by decide) (by decide) (by decide) ?_
      refine R.aload_n (j := 0) (i := 0) hc rfl rfl dX7_count_75 ?_
      refine R.gtV hc gf_X7_109_r dX7_count_76 hR.1 rfl (hS.un) ?_
      exact R.iret hc rfl dX7_count_79 ⟨rfl, rfl, ⟨A, L, I, hR, hS⟩, hF⟩
set_option maxHeartbeats 4000000 in
set_option maxRecDepth 100000 in
theorem c_X7_type (l : Launch) (d : Nat) (X : Nat × (Nat → Int32)) (n : Nat) {σ : Wd} {a : SA} {np nq hr dr : Nat} {hs : List SN} {im : IM} {tp : Nat → Nat} {tl : Nat} {ln sz : Nat → Nat} {it : Nat → Nat → Int64} (hC : RA σ a np nq hr dr hs im tp tl ln sz it) (hI : WI a np nq hr dr hs im tp tl ln sz) (x : Int32) : CN l yX7_type cX7_type 2 (some .int) ((d + 1)) X n [.ref 42, .int x] σ (fun r σ' => r = some (.int (s_type tl x)) ∧ ((if inR x 32 126 = true ∧ tl < 90 then RA σ' a np nq hr dr hs im (tpA tp tl (tN x)) (tl + 1) ln sz it else RA σ' a np nq hr dr hs im tp tl ln sz it) ∧ Eqo 42 17 σ σ')) := by
  refine CN.of (by decide) [some (.ref 42), some (.int x)] (fun _ => Nat.le_of_ble_eq_true rfl) (fun _ => rfl) (fun cx hc => ?_)
  obtain ⟨A, L, I, hR, hS⟩ := hC
  obtain ⟨hW, hh, hdr, hwh, hwi, hU, hV⟩ := hI
  have hN := hS.n
  have hW1 := hW.1
  have hW2 := hW.2.1
  have hF : Eqo 42 17 σ σ := Eqo.rf
  have hU1 := hU.1
  have hT0 := hS.tn
  refine R.iload_n (j := 1) (i := 1) hc rfl rfl dX7_type_0 ?_
  refine R.i2l hc dX7_type_1 ?_
  refine R.ldc2 hc kn_X7_148 dX7_type_2 ?_
  refine R.ldc2 hc kn_X7_150 dX7_type_5 ?_
  refine R.cSr hc m_X7_in lk_X7_59 dX7_type_8 (c_X7_in l d X n _ _ _) rfl rfl (by omega) ⟨Nat.le_refl _, Nat.le_refl _⟩ (Nat.le_of_ble_eq_true rfl) ?_
  rw [inL_R (by decide) (by decide)]
  refine R.ifB_ne (tgt := 16) hc dX7_type_11 (by decide) (fun q1 => ?_) (fun q1 => ?_)
  rotate_left
  · refine R.iconst hc ic_m1 dX7_type_14 ?_
    have e9 : (-1) = s_type tl x := by simp [s_type, q1]
    exact R.iret hc rfl dX7_type_15 ⟨rfl, congrArg (fun z => some (Value.int z)) e9, by rw [if_neg (by simp [q1])]; exact ⟨A, L, I, hR, hS⟩, hF⟩
  refine R.aload_n (j := 0) (i := 0) hc rfl rfl dX7_type_16 ?_
  refine R.gtV hc gf_X7_152_r dX7_type_17 hR.1 rfl (hT0) ?_
  refine R.bipush hc bp_90 dX7_type_20 ?_
  refine R.icmpN_ne (tgt := 28) hc dX7_type_22 (by decide) (by omega) (by omega) (fun h9 => ?_) (fun h9 => ?_)
  rotate_left
  · refine R.bipush hc bp_m3 dX7_type_25 ?_
    have e9 : (-3) = s_type tl x := by simp [s_type, q1, h9]
    exact R.iret hc rfl dX7_type_27 ⟨rfl, congrArg (fun z => some (Value.int z)) e9, by rw [if_neg (by omega)]; exact ⟨A, L, I, hR, hS⟩, hF⟩
  obtain ⟨i1, rfl, _, g1, t1⟩ := inR_of (by decide) (by decide) q1
  have hA : s_type tl (nI i1) = nI (tl + 1) := by simp [s_type, q1, show tl < 90 by omega]
  rw [hA, t1] at hc
  refine R.aload_n (j := 0) (i := 0) hc rfl rfl dX7_type_28 ?_
  refine R.get hc gf_X7_16_r dX7_type_29 (hR.1) rfl ?_
  refine R.aload_n (j := 0) (i := 0) hc rfl rfl dX7_type_32 ?_
  refine R.gtV hc gf_X7_152_r dX7_type_33 hR.1 rfl (hT0) ?_
  refine R.iload_n (j := 1) (i := 1) hc rfl rfl dX7_type_36 ?_
  refine R.iastG hc dX7_type_37 hR.g2 (by omega) (by decide) (fun σ hX hE => ?_)
  have hR := hR.w2 hX hE
  have hF := hF.tr (hE.wid (by omega))
  refine R.aload_n (j := 0) (i := 0) hc rfl rfl dX7_type_38 ?_
  refine R.dup hc rfl dX7_type_39 ?_
  refine R.gtV hc gf_X7_152_r dX7_type_40 hR.1 rfl (hT0) ?_
  refine R.iconst hc ic_1 dX7_type_43 ?_
  first | refine R.iaddN hc dX7_type_44 ?_ | refine R.iadd hc dX7_type_44 ?_
  refine R.putG hc gf_X7_152 dX7_type_45 hR.1 (Nat.le_of_ble_eq_true rfl) (fun _ => rfl) (fun _ => rfl) (fun σ hX hE => ?_)
  have hR := hR.p0 hX hE
  have hF := hF.tr (hE.wid (by omega))
  have hT0 : un I 0 (nI (tl + 1)) 0 = nI (tl + 1) := rfl
  refine R.aload_n (j := 0) (i := 0) hc rfl rfl dX7_type_48 ?_
  refine R.gtV hc gf_X7_152_r dX7_type_49 hR.1 rfl (hT0) ?_
  refine R.iret hc rfl dX7_type_52 ⟨rfl, rfl, ?_, hF⟩
  rw [if_pos ⟨q1, by omega⟩]
  refine ⟨_, L, _, hR, ?_, ?_, ?_, hS.ul, fun j hj => ?_, rfl, ?_, ?_, ?_, hS.i⟩
  · rw [A2_n (by omega)]; exact hN
  · rw [A2_n (by omega)]; exact hS.u
  · exact hS.un
  · rw [A2_s]
    by_cases e : j = tl
    · rw [e, pk_us, tpA, if_pos rfl]
    · rw [pk_un e, tpA, if_neg e]; exact hS.t j (by omega)
  · rw [A2_n (by omega)]; exact hS.k
  · rw [A2_n (by omega)]; exact hS.l
  · rw [A2_n (by omega)]; exact hS.s
set_option maxHeartbeats 4000000 in
set_option maxRecDepth 100000 in
theorem c_X7_rain (l : Launch) (d : Nat) (X : Nat × (Nat → Int32)) (n : Nat) {σ : Wd} {a : SA} {np nq hr dr : Nat} {hs : List SN} {im : IM} {tp : Nat → Nat} {tl : Nat} {ln sz : Nat → Nat} {it : Nat → Nat → Int64} (hC : RA σ a np nq hr dr hs im tp tl ln sz it) (hI : WI a np nq hr dr hs im tp tl ln sz) (x : Int32) : CN l yX7_rain cX7_rain 2 (some .int) ((d + 3)) X n [.ref 42, .int x] σ (fun r σ' => r = some (.int (s_rain a np x)) ∧ ((if inR x 1 60 = true then RA σ' (rainK a (tN x) np) np nq hr dr (remem hs (hr, dr, a)) im tp tl ln sz it else RA σ' a np nq hr dr hs im tp tl ln sz it) ∧ Eqo 42 17 σ σ')) := by
  refine CN.of (by decide) [some (.ref 42), some (.int x)] (fun _ => Nat.le_of_ble_eq_true rfl) (fun _ => rfl) (fun cx hc => ?_)
  obtain ⟨A, L, I, hR, hS⟩ := hC
  obtain ⟨hW, hh, hdr, hwh, hwi, hU, hV⟩ := hI
  have hN := hS.n
  have hW1 := hW.1
  have hW2 := hW.2.1
  have hF : Eqo 42 17 σ σ := Eqo.rf
  refine R.iload_n (j := 1) (i := 1) hc rfl rfl dX7_rain_0 ?_
  refine R.i2l hc dX7_rain_1 ?_
  refine R.lconst (j := 1) (v := lN 1) hc rfl dX7_rain_2 ?_
  refine R.ldc2 hc kn_X7_117 dX7_rain_3 ?_
  refine R.cSr hc m_X7_in lk_X7_59 dX7_rain_6 (c_X7_in l (d + 2) X n _ _ _) rfl rfl (by omega) ⟨Nat.le_refl _, Nat.le_refl _⟩ (Nat.le_of_ble_eq_true rfl) ?_
  rw [inL_R (by decide) (by decide)]
  refine R.ifB_ne (tgt := 14) hc dX7_rain_9 (by decide) (fun q1 => ?_) (fun q1 => ?_)
  rotate_left
  · refine R.iconst hc ic_m1 dX7_rain_12 ?_
    have e9 : (-1) = s_rain a np x := by simp [s_rain, q1]
    exact R.iret hc rfl dX7_rain_13 ⟨rfl, congrArg (fun z => some (Value.int z)) e9, by rw [if_neg (by simp [q1])]; exact ⟨A, L, I, hR, hS⟩, hF⟩
  obtain ⟨i1, rfl, _, g1, t1⟩ := inR_of (by decide) (by decide) q1
  have hA : s_rain a np (nI i1) = nI (sumN (rainK a i1 np 2) np) := by simp [s_rain, q1, t1]
  rw [hA, t1] at hc
  refine R.aload_n (j := 0) (i := 0) hc rfl rfl dX7_rain_14 ?_
  refine R.cVu hc m_X7_notes lk_X7_191 dX7_rain_15 (c_X7_notes l d X n hR hN hW hS.u hS.un hS.ul) (hR.1) rfl rfl rfl (by omega) ⟨Nat.le_refl _, Nat.le_refl _⟩ (Nat.le_of_ble_eq_true rfl) (fun σ hX => ?_)
  obtain ⟨A1, I1, hR, hA1, hU1, hI1, hIk, hE⟩ := hX
  have hF := hF.tr hE
  have hN : NowR (A1 0) a np nq hr dr := by rw [hA1 0 (by omega)]; exact hN
  refine R.aload_n (j := 0) (i := 0) hc rfl rfl dX7_rain_18 ?_
  refine R.iload_n (j := 1) (i := 1) hc rfl rfl dX7_rain_19 ?_
  refine R.cVu hc m_X7_rains lk_X7_194 dX7_rain_20 (c_X7_rains l d X n hR hN hW (by omega)) (hR.1) rfl rfl rfl (by omega) ⟨Nat.le_refl _, Nat.le_refl _⟩ (Nat.le_of_ble_eq_true rfl) (fun σ hX => ?_)
  obtain ⟨B, hR, hN, hA, hE⟩ := hX
  have hF := hF.tr hE
  refine R.aload_n (j := 0) (i := 0) hc rfl rfl dX7_rain_23 ?_
  refine R.cVr hc m_X7_deepAll lk_X7_135 dX7_rain_24 (c_X7_deepAll l d X n hR hN (WF_rainK hW)) (hR.1) rfl rfl rfl (by omega) ⟨Nat.le_refl _, Nat.le_refl _⟩ (Nat.le_of_ble_eq_true rfl) ?_
  exact R.iret hc rfl dX7_rain_27 ⟨rfl, rfl, by rw [if_pos q1]; exact ⟨B, L, I1, hR, hS.nx hN (by rw [hA 5 (by omega)]; exact hU1) hI1 remem_len (fun k hk => (hA k (by omega)).trans (hA1 k (by omega))) (fun k hk => hIk k (by omega))⟩, hF⟩
set_option maxHeartbeats 4000000 in
set_option maxRecDepth 100000 in
theorem c_X7_drive (l : Launch) (d : Nat) (X : Nat × (Nat → Int32)) (n : Nat) {σ : Wd} {a : SA} {np nq hr dr : Nat} {hs : List SN} {im : IM} {tp : Nat → Nat} {tl : Nat} {ln sz : Nat → Nat} {it : Nat → Nat → Int64} (hC : RA σ a np nq hr dr hs im tp tl ln sz it) (hI : WI a np nq hr dr hs im tp tl ln sz) (p : Int32) : CN l yX7_drive cX7_drive 2 (some .int) ((d + 3)) X n [.ref 42, .int p] σ (fun r σ' => r = some (.int (s_drive a np p)) ∧ ((if okD a np p = true then RA σ' (a2 a 2 (tN p) (a 2 (tN p) / 2)) np nq hr dr (remem hs (hr, dr, a)) im tp tl ln sz it else RA σ' a np nq hr dr hs im tp tl ln sz it) ∧ Eqo 42 17 σ σ')) := by
  refine CN.of (by decide) [some (.ref 42), some (.int p)] (fun _ => Nat.le_of_ble_eq_true rfl) (fun _ => rfl) (fun cx hc => ?_)
  obtain ⟨A, L, I, hR, hS⟩ := hC
  obtain ⟨hW, hh, hdr, hwh, hwi, hU, hV⟩ := hI
  have hN := hS.n
  have hW1 := hW.1
  have hW2 := hW.2.1
  have hF : Eqo 42 17 σ σ := Eqo.rf
  refine R.aload_n (j := 0) (i := 0) hc rfl rfl dX7_drive_0 ?_
  refine R.iload_n (j := 1) (i := 1) hc rfl rfl dX7_drive_1 ?_
  refine R.cVr hc m_X7_isPuddle lk_X7_74 dX7_drive_2 (c_X7_isPuddle l (d + 1) X n hR hN hW _) (hR.1) rfl rfl rfl (by omega) ⟨Nat.le_refl _, Nat.le_refl _⟩ (Nat.le_of_ble_eq_true rfl) ?_
  refine R.ifB_ne (tgt := 10) hc dX7_drive_5 (by decide) (fun q1 => ?_) (fun q1 => ?_)
  rotate_left
  · refine R.iconst hc ic_m1 dX7_drive_8 ?_
    have e9 : (-1) = s_drive a np p := by simp [s_drive, q1]
    exact R.iret hc rfl dX7_drive_9 ⟨rfl, congrArg (fun z => some (Value.int z)) e9, by rw [if_neg (by simp [okD, q1])]; exact ⟨A, L, I, hR, hS⟩, hF⟩
  obtain ⟨i1, rfl, g1, t1⟩ := inI_tN (by omega) q1
  obtain ⟨k0, k1, k2⟩ := hW.2.2.1 i1 g1
  refine R.aload_n (j := 0) (i := 0) hc rfl rfl dX7_drive_10 ?_
  refine R.iload_n (j := 1) (i := 1) hc rfl rfl dX7_drive_11 ?_
  refine R.cVr hc m_X7_isDry lk_X7_81 dX7_drive_12 (c_X7_isDry l d X n hR hN hW _) (hR.1) rfl rfl rfl (by omega) ⟨Nat.le_refl _, Nat.le_refl _⟩ (Nat.le_of_ble_eq_true rfl) ?_
  refine R.ifB_eq (tgt := 21) hc dX7_drive_15 (by decide) (fun q2 => ?_) (fun q2 => ?_)
  rotate_left
  · have q2 : dryB a i1 = true := by simp [dryI, q1, t1] at q2; exact q2
    refine R.bipush hc bp_m2 dX7_drive_18 ?_
    have e9 : (-2) = s_drive a np (nI i1) := by simp [s_drive, q1, t1, q2]
    exact R.iret hc rfl dX7_drive_20 ⟨rfl, congrArg (fun z => some (Value.int z)) e9, by rw [if_neg (by simp [okD, t1, q2])]; exact ⟨A, L, I, hR, hS⟩, hF⟩
  have q2 : dryB a i1 = false := by simp [dryI, q1, t1] at q2; exact q2
  have hok : okD a np (nI i1) = true := by simp [okD, q1, t1, q2]
  have hA : s_drive a np (nI i1) = nI (a 2 i1 / 2) := by simp [s_drive, q1, t1, q2]
  rw [hA, t1] at hc
  refine R.aload_n (j := 0) (i := 0) hc rfl rfl dX7_drive_21 ?_
  refine R.cVu hc m_X7_notes lk_X7_191 dX7_drive_22 (c_X7_notes l d X n hR hN hW hS.u hS.un hS.ul) (hR.1) rfl rfl rfl (by omega) ⟨Nat.le_refl _, Nat.le_refl _⟩ (Nat.le_of_ble_eq_true rfl) (fun σ hX => ?_)
  obtain ⟨A1, I1, hR, hA1, hU1, hI1, hIk, hE⟩ := hX
  have hF := hF.tr hE
  have hN : NowR (A1 0) a np nq hr dr := by rw [hA1 0 (by omega)]; exact hN
  refine R.aload_n (j := 0) (i := 0) hc rfl rfl dX7_drive_25 ?_
  refine R.iload_n (j := 1) (i := 1) hc rfl rfl dX7_drive_26 ?_
  refine R.aload_n (j := 0) (i := 0) hc rfl rfl dX7_drive_27 ?_
  refine R.iload_n (j := 1) (i := 1) hc rfl rfl dX7_drive_28 ?_
  refine R.cVr hc m_X7_deep lk_X7_78 dX7_drive_29 (n_X7_deep l (d + 1) X n hR hN hW (by omega)) (hR.1) rfl rfl rfl (by omega) ⟨Nat.le_refl _, Nat.le_refl _⟩ (Nat.le_of_ble_eq_true rfl) ?_
  refine R.iconst hc ic_2 dX7_drive_32 ?_
  first | refine R.idivN hc (by omega) (by omega) (by omega) dX7_drive_33 ?_ | refine R.idiv hc (by decide) dX7_drive_33 ?_
  refine R.cVu hc m_X7_deeps lk_X7_102 dX7_drive_34 (c_X7_deeps l (d + 2) X n hR (by omega) _) (hR.1) rfl rfl rfl (by omega) ⟨Nat.le_refl _, Nat.le_refl _⟩ (Nat.le_of_ble_eq_true rfl) (fun σ hX => ?_)
  obtain ⟨hR, hE⟩ := hX
  have hF := hF.tr hE
  rw [clI_n (by omega), if_neg (by omega)] at hR
  have hN : NowR (A2 A1 0 (4 + 3 * i1 + 2) (nI (a 2 i1 / 2)) 0) (a2 a 2 i1 (a 2 i1 / 2)) np nq hr dr := by rw [A2_s]; exact hN.wp (by omega) (by omega)
  refine R.aload_n (j := 0) (i := 0) hc rfl rfl dX7_drive_37 ?_
  refine R.iload_n (j := 1) (i := 1) hc rfl rfl dX7_drive_38 ?_
  refine R.cVr hc m_X7_deep lk_X7_78 dX7_drive_39 (n_X7_deep l (d + 1) X n hR hN (WF_half hW) (by omega)) (hR.1) rfl rfl rfl (by omega) ⟨Nat.le_refl _, Nat.le_refl _⟩ (Nat.le_of_ble_eq_true rfl) ?_
  rw [a2_s]
  exact R.iret hc rfl dX7_drive_42 ⟨rfl, rfl, by rw [if_pos hok]; exact ⟨_, L, I1, hR, hS.nx hN (by rw [A2_n (by omega)]; exact hU1) hI1 remem_len (fun k hk => (A2_n (by omega)).trans (hA1 k (by omega))) (fun k hk => hIk k (by omega))⟩, hF⟩
set_option maxHeartbeats 4000000 in
set_option maxRecDepth 100000 in
theorem c_X7_send (l : Launch) (d : Nat) (X : Nat × (Nat → Int32)) (n : Nat) {σ : Wd} {a : SA} {np nq hr dr : Nat} {hs : List SN} {im : IM} {tp : Nat → Nat} {tl : Nat} {ln sz : Nat → Nat} {it : Nat → Nat → Int64} (hC : RA σ a np nq hr dr hs im tp tl ln sz it) (hI : WI a np nq hr dr hs im tp tl ln sz) (p : Int32) : CN l yX7_send cX7_send 3 (some .int) ((d + 3)) X n [.ref 42, .int p] σ (fun r σ' => r = some (.int (s_send a nq p)) ∧ ((if okN a nq p = true then RA σ' (a2 a 6 (tN p) 0) np nq hr dr (remem hs (hr, dr, a)) im tp tl ln sz it else RA σ' a np nq hr dr hs im tp tl ln sz it) ∧ Eqo 42 17 σ σ')) := by
  refine CN.of (by decide) [some (.ref 42), some (.int p), none] (fun _ => Nat.le_of_ble_eq_true rfl) (fun _ => rfl) (fun cx hc => ?_)
  obtain ⟨A, L, I, hR, hS⟩ := hC
  obtain ⟨hW, hh, hdr, hwh, hwi, hU, hV⟩ := hI
  have hN := hS.n
  have hW1 := hW.1
  have hW2 := hW.2.1
  have hF : Eqo 42 17 σ σ := Eqo.rf
  refine R.aload_n (j := 0) (i := 0) hc rfl rfl dX7_send_0 ?_
  refine R.iload_n (j := 1) (i := 1) hc rfl rfl dX7_send_1 ?_
  refine R.cVr hc m_X7_isPerson lk_X7_129 dX7_send_2 (c_X7_isPerson l (d + 1) X n hR hN hW _) (hR.1) rfl rfl rfl (by omega) ⟨Nat.le_refl _, Nat.le_refl _⟩ (Nat.le_of_ble_eq_true rfl) ?_
  refine R.ifB_ne (tgt := 10) hc dX7_send_5 (by decide) (fun q1 => ?_) (fun q1 => ?_)
  rotate_left
  · refine R.iconst hc ic_m1 dX7_send_8 ?_
    have e9 : (-1) = s_send a nq p := by simp [s_send, q1]
    exact R.iret hc rfl dX7_send_9 ⟨rfl, congrArg (fun z => some (Value.int z)) e9, by rw [if_neg (by simp [okN, q1])]; exact ⟨A, L, I, hR, hS⟩, hF⟩
  obtain ⟨i1, rfl, g1, t1⟩ := inI_tN (by omega) q1
  obtain ⟨k0, k1, k2, k3⟩ := hW.2.2.2.1 i1 g1
  refine R.aload_n (j := 0) (i := 0) hc rfl rfl dX7_send_10 ?_
  refine R.iload_n (j := 1) (i := 1) hc rfl rfl dX7_send_11 ?_
  refine R.cVr hc m_X7_claimed lk_X7_70 dX7_send_12 (n_X7_claimed l (d + 1) X n hR hN hW (by omega)) (hR.1) rfl rfl rfl (by omega) ⟨Nat.le_refl _, Nat.le_refl _⟩ (Nat.le_of_ble_eq_true rfl) ?_
  refine R.istn2 hc dX7_send_15 (by decide) rfl ?_
  refine R.iload_n (j := 2) (i := 2) hc rfl rfl dX7_send_16 ?_
  refine R.bipush hc bp_m4 dX7_send_17 ?_
  refine R.icmp_ne (tgt := 25) hc dX7_send_19 (by decide) (fun q2 => ?_) (fun q2 => ?_)
  rotate_left
  · have q2 : hasC a i1 = false := by simp [hasC]; exact (cI_n4 (by omega)).mp q2
    refine R.bipush hc bp_m2 dX7_send_22 ?_
    have e9 : (-2) = s_send a nq (nI i1) := by simp [s_send, q1, t1, q2]
    exact R.iret hc rfl dX7_send_24 ⟨rfl, congrArg (fun z => some (Value.int z)) e9, by rw [if_neg (by simp [okN, t1, q2])]; exact ⟨A, L, I, hR, hS⟩, hF⟩
  have q2 : hasC a i1 = true := by simp [hasC]; exact fun y => q2 ((cI_n4 (by omega)).mpr y)
  have hok : okN a nq (nI i1) = true := by simp [okN, q1, t1, q2]
  have hA : s_send a nq (nI i1) = cI (a 6 i1) := by simp [s_send, q1, t1, q2]
  rw [hA, t1] at hc
  refine R.aload_n (j := 0) (i := 0) hc rfl rfl dX7_send_25 ?_
  refine R.cVu hc m_X7_notes lk_X7_191 dX7_send_26 (c_X7_notes l d X n hR hN hW hS.u hS.un hS.ul) (hR.1) rfl rfl rfl (by omega) ⟨Nat.le_refl _, Nat.le_refl _⟩ (Nat.le_of_ble_eq_true rfl) (fun σ hX => ?_)
  obtain ⟨A1, I1, hR, hA1, hU1, hI1, hIk, hE⟩ := hX
  have hF := hF.tr hE
  have hN : NowR (A1 0) a np nq hr dr := by rw [hA1 0 (by omega)]; exact hN
  refine R.aload_n (j := 0) (i := 0) hc rfl rfl dX7_send_29 ?_
  refine R.iload_n (j := 1) (i := 1) hc rfl rfl dX7_send_30 ?_
  refine R.bipush hc bp_m4 dX7_send_31 ?_
  refine R.iconst hc ic_3 dX7_send_33 ?_
  refine R.cVu hc m_X7_tells lk_X7_91 dX7_send_34 (c_X7_tells l (d + 2) X n hR (by omega) (by omega) _) (hR.1) rfl rfl rfl (by omega) ⟨Nat.le_refl _, Nat.le_refl _⟩ (Nat.le_of_ble_eq_true rfl) (fun σ hX => ?_)
  obtain ⟨hR, hE⟩ := hX
  have hF := hF.tr hE
  refine R.iload_n (j := 2) (i := 2) hc rfl rfl dX7_send_37 ?_
  exact R.iret hc rfl dX7_send_38 ⟨rfl, rfl, by rw [if_pos hok]; exact ⟨_, L, I1, hR, hS.nx (by rw [A2_s]; exact hN.w6 hW1 (x := 0)) (by rw [A2_n (by omega)]; exact hU1) hI1 remem_len (fun k hk => (A2_n (by omega)).trans (hA1 k (by omega))) (fun k hk => hIk k (by omega))⟩, hF⟩
set_option maxHeartbeats 4000000 in
set_option maxRecDepth 100000 in
theorem c_X7_later (l : Launch) (d : Nat) (X : Nat × (Nat → Int32)) (n : Nat) {σ : Wd} {a : SA} {np nq hr dr : Nat} {hs : List SN} {im : IM} {tp : Nat → Nat} {tl : Nat} {ln sz : Nat → Nat} {it : Nat → Nat → Int64} (hC : RA σ a np nq hr dr hs im tp tl ln sz it) (hI : WI a np nq hr dr hs im tp tl ln sz) (p x : Int32) : CN l yX7_later cX7_later 4 (some .int) ((d + 3)) X n [.ref 42, .int p, .int x] σ (fun r σ' => r = some (.int (s_later a nq p x)) ∧ ((if okL a nq p x = true then RA σ' (a2 a 4 (tN p) (tN x)) np nq hr dr (remem hs (hr, dr, a)) im tp tl ln sz it else RA σ' a np nq hr dr hs im tp tl ln sz it) ∧ Eqo 42 17 σ σ')) := by
  refine CN.of (by decide) [some (.ref 42), some (.int p), some (.int x), none] (fun _ => Nat.le_of_ble_eq_true rfl) (fun _ => rfl) (fun cx hc => ?_)
  obtain ⟨A, L, I, hR, hS⟩ := hC
  obtain ⟨hW, hh, hdr, hwh, hwi, hU, hV⟩ := hI
  have hN := hS.n
  have hW1 := hW.1
  have hW2 := hW.2.1
  have hF : Eqo 42 17 σ σ := Eqo.rf
  refine R.aload_n (j := 0) (i := 0) hc rfl rfl dX7_later_0 ?_
  refine R.iload_n (j := 1) (i := 1) hc rfl rfl dX7_later_1 ?_
  refine R.cVr hc m_X7_isPerson lk_X7_129 dX7_later_2 (c_X7_isPerson l (d + 1) X n hR hN hW _) (hR.1) rfl rfl rfl (by omega) ⟨Nat.le_refl _, Nat.le_refl _⟩ (Nat.le_of_ble_eq_true rfl) ?_
  refine R.ifB_eq (tgt := 20) hc dX7_later_5 (by decide) (fun q1 => ?_) (fun q1 => ?_)
  · refine R.iconst hc ic_m1 dX7_later_20 ?_
    have e9 : (-1) = s_later a nq p x := by simp [s_later, q1]
    exact R.iret hc rfl dX7_later_21 ⟨rfl, congrArg (fun z => some (Value.int z)) e9, by rw [if_neg (by simp [okL, q1])]; exact ⟨A, L, I, hR, hS⟩, hF⟩
  refine R.iload_n (j := 2) (i := 2) hc rfl rfl dX7_later_8 ?_
  refine R.i2l hc dX7_later_9 ?_
  refine R.lconst (j := 0) (v := lN 0) hc rfl dX7_later_10 ?_
  refine R.ldc2 hc kn_X7_122 dX7_later_11 ?_
  refine R.cSr hc m_X7_in lk_X7_59 dX7_later_14 (c_X7_in l (d + 2) X n _ _ _) rfl rfl (by omega) ⟨Nat.le_refl _, Nat.le_refl _⟩ (Nat.le_of_ble_eq_true rfl) ?_
  rw [inL_R (by decide) (by decide)]
  refine R.ifB_ne (tgt := 22) hc dX7_later_17 (by decide) (fun q2 => ?_) (fun q2 => ?_)
  rotate_left
  · refine R.iconst hc ic_m1 dX7_later_20 ?_
    have e9 : (-1) = s_later a nq p x := by simp [s_later, q2]
    exact R.iret hc rfl dX7_later_21 ⟨rfl, congrArg (fun z => some (Value.int z)) e9, by rw [if_neg (by simp [okL, q2])]; exact ⟨A, L, I, hR, hS⟩, hF⟩
  obtain ⟨i1, rfl, g1, t1⟩ := inI_tN (by omega) q1
  obtain ⟨i2, rfl, _, g2, t2⟩ := inR_of (by decide) (by decide) q2
  obtain ⟨k0, k1, k2, k3⟩ := hW.2.2.2.1 i1 g1
  have k1b : a (3 + 1) i1 < 20000 := k1
  refine R.aload_n (j := 0) (i := 0) hc rfl rfl dX7_later_22 ?_
  refine R.iload_n (j := 1) (i := 1) hc rfl rfl dX7_later_23 ?_
  refine R.iconst hc ic_1 dX7_later_24 ?_
  refine R.cVr hc m_X7_ofPerson lk_X7_67 dX7_later_25 (n_X7_ofPerson l (d + 2) X n hR hN hW (by omega) (by omega)) (hR.1) rfl rfl rfl (by omega) ⟨Nat.le_refl _, Nat.le_refl _⟩ (Nat.le_of_ble_eq_true rfl) ?_
  refine R.istn3 hc dX7_later_28 (by decide) rfl ?_
  refine R.iload_n (j := 3) (i := 3) hc rfl rfl dX7_later_29 ?_
  refine R.iload_n (j := 2) (i := 2) hc rfl rfl dX7_later_30 ?_
  refine R.icmpN_ne (tgt := 37) hc dX7_later_31 (by decide) (by omega) (by omega) (fun q3 => ?_) (fun q3 => ?_)
  rotate_left
  · have q3 : a 4 i1 = i2 := q3
    refine R.bipush hc bp_m2 dX7_later_34 ?_
    have e9 : (-2) = s_later a nq (nI i1) (nI i2) := by simp [s_later, q1, q2, t1, t2, q3]
    exact R.iret hc rfl dX7_later_36 ⟨rfl, congrArg (fun z => some (Value.int z)) e9, by rw [if_neg (by simp [okL, t1, t2, q3])]; exact ⟨A, L, I, hR, hS⟩, hF⟩
  have q3 : ¬ a 4 i1 = i2 := q3
  have hok : okL a nq (nI i1) (nI i2) = true := by simp [okL, q1, q2, t1, t2, q3]
  have hA : s_later a nq (nI i1) (nI i2) = nI (a 4 i1) := by simp [s_later, q1, q2, t1, t2, q3]
  rw [hA, t1, t2] at hc
  refine R.aload_n (j := 0) (i := 0) hc rfl rfl dX7_later_37 ?_
  refine R.cVu hc m_X7_notes lk_X7_191 dX7_later_38 (c_X7_notes l d X n hR hN hW hS.u hS.un hS.ul) (hR.1) rfl rfl rfl (by omega) ⟨Nat.le_refl _, Nat.le_refl _⟩ (Nat.le_of_ble_eq_true rfl) (fun σ hX => ?_)
  obtain ⟨A1, I1, hR, hA1, hU1, hI1, hIk, hE⟩ := hX
  have hF := hF.tr hE
  have hN : NowR (A1 0) a np nq hr dr := by rw [hA1 0 (by omega)]; exact hN
  refine R.aload_n (j := 0) (i := 0) hc rfl rfl dX7_later_41 ?_
  refine R.iload_n (j := 1) (i := 1) hc rfl rfl dX7_later_42 ?_
  refine R.iload_n (j := 2) (i := 2) hc rfl rfl dX7_later_43 ?_
  refine R.iconst hc ic_1 dX7_later_44 ?_
  refine R.cVu hc m_X7_tells lk_X7_91 dX7_later_45 (c_X7_tells l (d + 2) X n hR (k := 1) (by omega) (by omega) _) (hR.1) rfl rfl rfl (by omega) ⟨Nat.le_refl _, Nat.le_refl _⟩ (Nat.le_of_ble_eq_true rfl) (fun σ hX => ?_)
  obtain ⟨hR, hE⟩ := hX
  have hF := hF.tr hE
  refine R.iload_n (j := 3) (i := 3) hc rfl rfl dX7_later_48 ?_
  exact R.iret hc rfl dX7_later_49 ⟨rfl, rfl, by rw [if_pos hok]; exact ⟨_, L, I1, hR, hS.nx (by rw [A2_s]; exact hN.wq hW1 (k := 1) (by omega)) (by rw [A2_n (by omega)]; exact hU1) hI1 remem_len (fun k hk => (A2_n (by omega)).trans (hA1 k (by omega))) (fun k hk => hIk k (by omega))⟩, hF⟩
set_option maxHeartbeats 4000000 in
set_option maxRecDepth 100000 in
theorem c_X7_seed (l : Launch) (d : Nat) (X : Nat × (Nat → Int32)) (n : Nat) {σ : Wd} {a : SA} {np nq hr dr : Nat} {hs : List SN} {im : IM} {tp : Nat → Nat} {tl : Nat} {ln sz : Nat → Nat} {it : Nat → Nat → Int64} (hC : RA σ a np nq hr dr hs im tp tl ln sz it) (hI : WI a np nq hr dr hs im tp tl ln sz) (v : Int32) : CN l yX7_seed cX7_seed 3 (some .int) (d) X n [.ref 42, .int v] σ (fun r σ' => r = some (.int (s_seed dr v)) ∧ ((if ¬ v < 0 then RA σ' a np nq hr (tN v) hs im tp tl ln sz it else RA σ' a np nq hr dr hs im tp tl ln sz it) ∧ Eqo 42 17 σ σ')) := by
  refine CN.of (by decide) [some (.ref 42), some (.int v), none] (fun _ => Nat.le_of_ble_eq_true rfl) (fun _ => rfl) (fun cx hc => ?_)
  obtain ⟨A, L, I, hR, hS⟩ := hC
  obtain ⟨hW, hh, hdr, hwh, hwi, hU, hV⟩ := hI
  have hN := hS.n
  have hW1 := hW.1
  have hW2 := hW.2.1
  have hF : Eqo 42 17 σ σ := Eqo.rf
  refine R.iload_n (j := 1) (i := 1) hc rfl rfl dX7_seed_0 ?_
  refine R.if_ge (tgt := 6) hc dX7_seed_1 (by decide) (fun q1 => ?_) (fun q1 => ?_)
  rotate_left
  · have q1 : v < 0 := Int32.not_le.mp q1
    refine R.iconst hc ic_m1 dX7_seed_4 ?_
    have e9 : (-1) = s_seed dr v := by simp [s_seed, q1]
    exact R.iret hc rfl dX7_seed_5 ⟨rfl, congrArg (fun z => some (Value.int z)) e9, by rw [if_neg (by exact fun z => z q1)]; exact ⟨A, L, I, hR, hS⟩, hF⟩
  have q1 : ¬ v < 0 := Int32.not_lt.mpr q1
  obtain ⟨j, hj, rfl⟩ := nI_of q1
  have hA : s_seed dr (nI j) = nI dr := by simp [s_seed, q1]
  rw [hA, tN_nI hj] at hc
  refine R.aload_n (j := 0) (i := 0) hc rfl rfl dX7_seed_6 ?_
  refine R.get hc gf_X7_7_r dX7_seed_7 (hR.1) rfl ?_
  refine R.iconst hc ic_3 dX7_seed_10 ?_
  refine R.ialdV hc hR.g0 (by omega) (by decide) dX7_seed_11 (hN.2.2.2.1) ?_
  refine R.istn2 hc dX7_seed_12 (by decide) rfl ?_
  refine R.aload_n (j := 0) (i := 0) hc rfl rfl dX7_seed_13 ?_
  refine R.get hc gf_X7_7_r dX7_seed_14 (hR.1) rfl ?_
  refine R.iconst hc ic_3 dX7_seed_17 ?_
  refine R.iload_n (j := 1) (i := 1) hc rfl rfl dX7_seed_18 ?_
  refine R.iastG hc dX7_seed_19 hR.g0 (by omega) (by decide) (fun σ hX hE => ?_)
  have hR := hR.w0 hX hE
  have hF := hF.tr (hE.wid (by omega))
  refine R.iload_n (j := 2) (i := 2) hc rfl rfl dX7_seed_20 ?_
  exact R.iret hc rfl dX7_seed_21 ⟨rfl, rfl, by rw [if_pos q1]; exact ⟨_, L, I, hR, hS.nx (by rw [A2_s]; exact hN.wdr j) (by rw [A2_n (by omega)]; exact hS.u) hS.un hS.ul (fun k hk => A2_n (by omega)) (fun _ _ => rfl)⟩, hF⟩
