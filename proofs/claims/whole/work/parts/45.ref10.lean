set_option maxHeartbeats 4000000 in
set_option maxRecDepth 100000 in
theorem c_X7_copy (l : Launch) (d : Nat) (X : Nat × (Nat → Int32)) (n : Nat) {σ : Wd} {a : SA} {np nq hr dr : Nat} {hs : List SN} {im : IM} {tp : Nat → Nat} {tl : Nat} {ln sz : Nat → Nat} {it : Nat → Nat → Int64} (hC : RA σ a np nq hr dr hs im tp tl ln sz it) (hI : WI a np nq hr dr hs im tp tl ln sz) (s i t j k : Int32) : CN l yX7_copy cX7_copy 8 (some .int) ((d + 2)) X n [.ref 42, .int s, .int i, .int t, .int j, .int k] σ (fun r σ' => r = some (.int (s_copy ln sz s i t j k)) ∧ ((if okCp ln sz s i t j k = true then RA σ' a np nq hr dr hs im tp tl ln sz (itM it (tN s) (tN i) (tN t) (tN j) (tN k)) else RA σ' a np nq hr dr hs im tp tl ln sz it) ∧ Eqo 42 17 σ σ')) := by
  refine CN.of (by decide) [some (.ref 42), some (.int s), some (.int i), some (.int t), some (.int j), some (.int k), none, none] (fun _ => Nat.le_of_ble_eq_true rfl) (fun _ => rfl) (fun cx hc => ?_)
  obtain ⟨A, L, I, hR, hS⟩ := hC
  obtain ⟨hW, hh, hdr, hwh, hwi, hU, hV⟩ := hI
  have hN := hS.n
  have hW1 := hW.1
  have hW2 := hW.2.1
  have hF : Eqo 42 17 σ σ := Eqo.rf
  refine R.iload_n (j := 1) (i := 1) hc rfl rfl dX7_copy_0 ?_
  refine R.cSr hc m_X7_isSheet lk_X7_232 dX7_copy_1 (c_X7_isSheet l d X n _) rfl rfl (by omega) ⟨Nat.le_refl _, Nat.le_refl _⟩ (Nat.le_of_ble_eq_true rfl) ?_
  refine R.ifB_eq (tgt := 14) hc dX7_copy_4 (by decide) (fun q1 => ?_) (fun q1 => ?_)
  · refine R.iconst hc ic_m1 dX7_copy_14 ?_
    have e9 : (-1) = s_copy ln sz s i t j k := by simp [s_copy, q1]
    exact R.iret hc rfl dX7_copy_15 ⟨rfl, congrArg (fun z => some (Value.int z)) e9, by rw [if_neg (by simp [okCp, q1])]; exact ⟨A, L, I, hR, hS⟩, hF⟩
  refine R.iload_n (j := 3) (i := 3) hc rfl rfl dX7_copy_7 ?_
  refine R.cSr hc m_X7_isSheet lk_X7_232 dX7_copy_8 (c_X7_isSheet l d X n _) rfl rfl (by omega) ⟨Nat.le_refl _, Nat.le_refl _⟩ (Nat.le_of_ble_eq_true rfl) ?_
  refine R.ifB_ne (tgt := 16) hc dX7_copy_11 (by decide) (fun q2 => ?_) (fun q2 => ?_)
  rotate_left
  · refine R.iconst hc ic_m1 dX7_copy_14 ?_
    have e9 : (-1) = s_copy ln sz s i t j k := by simp [s_copy, q2]
    exact R.iret hc rfl dX7_copy_15 ⟨rfl, congrArg (fun z => some (Value.int z)) e9, by rw [if_neg (by simp [okCp, q2])]; exact ⟨A, L, I, hR, hS⟩, hF⟩
  obtain ⟨i1, rfl, g1, t1⟩ := inI_tN (by decide) q1
  obtain ⟨i2, rfl, g2, t2⟩ := inI_tN (by decide) q2
  obtain ⟨v1, v2⟩ := hV i1 g1
  obtain ⟨w1, w2⟩ := hV i2 g2
  have miss : (ln i1 = 0 ∨ ln i2 = 0) → R cx 0 0 n σ 34 [some (.ref 42), some (.int (nI i1)), some (.int i), some (.int (nI i2)), some (.int j), some (.int k), none, none] [] := by
    intro hm
    refine R.bipush hc bp_m11 dX7_copy_34 ?_
    have e9 : (-11) = s_copy ln sz (nI i1) i (nI i2) j k := by simp [s_copy, q1, q2, t1, t2, cpS, hm]
    exact R.iret hc rfl dX7_copy_36 ⟨rfl, congrArg (fun z => some (Value.int z)) e9, by rw [if_neg (by simp [okCp, t1, t2, cpS, hm])]; exact ⟨A, L, I, hR, hS⟩, hF⟩
  refine R.aload_n (j := 0) (i := 0) hc rfl rfl dX7_copy_16 ?_
  refine R.get hc gf_X7_46_r dX7_copy_17 (hR.1) rfl ?_
  refine R.iload_n (j := 1) (i := 1) hc rfl rfl dX7_copy_20 ?_
  refine R.ialdV hc hR.g12 (by omega) (by decide) dX7_copy_21 (hS.l i1 g1) ?_
  by_cases h0 : ln i1 = 0
  · rw [h0]
    exact R.if_lt (tgt := 34) hc dX7_copy_22 (by decide) (fun _ => miss (Or.inl h0)) (fun z => absurd (by decide) z)
  obtain ⟨c, hcl⟩ : ∃ c, ln i1 = c + 1 := ⟨ln i1 - 1, by omega⟩
  rw [hcl]
  simp only [lnI]
  refine R.ifN_lt (tgt := 34) hc dX7_copy_22 (by decide) (by omega) ?_
  refine R.aload_n (j := 0) (i := 0) hc rfl rfl dX7_copy_25 ?_
  refine R.get hc gf_X7_46_r dX7_copy_26 (hR.1) rfl ?_
  refine R.iload_n (j := 3) (i := 3) hc rfl rfl dX7_copy_29 ?_
  refine R.ialdV hc hR.g12 (by omega) (by decide) dX7_copy_30 (hS.l i2 g2) ?_
  by_cases h9 : ln i2 = 0
  · rw [h9]
    exact R.if_ge (tgt := 37) hc dX7_copy_31 (by decide) (fun z => absurd z (by decide)) (fun _ => miss (Or.inr h9))
  obtain ⟨e, hel⟩ : ∃ e, ln i2 = e + 1 := ⟨ln i2 - 1, by omega⟩
  rw [hel]
  simp only [lnI]
  refine R.ifN_ge (tgt := 37) hc dX7_copy_31 (by decide) (by omega) ?_
  refine R.aload_n (j := 0) (i := 0) hc rfl rfl dX7_copy_37 ?_
  refine R.iload_n (j := 3) (i := 3) hc rfl rfl dX7_copy_38 ?_
  refine R.aload_n (j := 0) (i := 0) hc rfl rfl dX7_copy_39 ?_
  refine R.get hc gf_X7_46_r dX7_copy_40 (hR.1) rfl ?_
  refine R.iload_n (j := 1) (i := 1) hc rfl rfl dX7_copy_43 ?_
  refine R.ialdV hc hR.g12 (by omega) (by decide) dX7_copy_44 (hS.l i1 g1) ?_
  rw [hcl]
  simp only [lnI]
  refine R.iload (i := 4) hc rfl dX7_copy_45 ?_
  refine R.iload (i := 5) hc rfl dX7_copy_47 ?_
  refine R.cVr hc m_X7_why lk_X7_242 dX7_copy_49 (c_X7_why l (d + 1) X n hR hS.l hS.s hV (by omega) (by omega) _ _) (hR.1) rfl rfl rfl (by omega) ⟨Nat.le_refl _, Nat.le_refl _⟩ (Nat.le_of_ble_eq_true rfl) ?_
  refine R.ist6 hc dX7_copy_52 (by decide) rfl ?_
  refine R.iload (i := 6) hc rfl dX7_copy_54 ?_
  have hcp : cpS ln sz i1 i2 i j k = if refS ln sz i2 c j k = 0 then refS ln sz i1 c i k else refS ln sz i2 c j k := by
    unfold cpS refS
    rw [if_neg (by omega), hcl, hel]
    simp only [Nat.add_right_cancel_iff, if_neg (show ¬ c + 1 = 0 by omega), if_neg (show ¬ e + 1 = 0 by omega), if_true]
    by_cases u1 : e = c
    · subst u1
      cases u2 : holdB (sz i2) j k <;> cases u3 : holdB (sz i1) i k <;> simp
    · simp [u1, show ¬ c = e by omega]
  have hsp : s_copy ln sz (nI i1) i (nI i2) j k = if cpS ln sz i1 i2 i j k = 0 then k else cpS ln sz i1 i2 i j k := by simp [s_copy, q1, q2, t1, t2]
  have h78 : ∀ v6 : Option Value, R cx 0 0 n σ 78 [some (.ref 42), some (.int (nI i1)), some (.int i), some (.int (nI i2)), some (.int j), some (.int k), v6, none] [.int (cpS ln sz i1 i2 i j k)] := by
    intro v6
    refine R.ist6 hc dX7_copy_78 (by decide) rfl ?_
    refine R.iload (i := 6) hc rfl dX7_copy_80 ?_
    have hneg : 0 ≤ cpS ln sz i1 i2 i j k ↔ cpS ln sz i1 i2 i j k = 0 := by
      rw [hcp]
      split
      · exact refS_ge
      · exact refS_ge
    refine R.if_ge (tgt := 88) hc dX7_copy_82 (by decide) (fun z => ?_) (fun z => ?_)
    rotate_left
    · have z : ¬ cpS ln sz i1 i2 i j k = 0 := fun y => z (hneg.mpr y)
      refine R.iload (i := 6) hc rfl dX7_copy_85 ?_
      have e9 : cpS ln sz i1 i2 i j k = s_copy ln sz (nI i1) i (nI i2) j k := by rw [hsp, if_neg z]
      exact R.iret hc rfl dX7_copy_87 ⟨rfl, congrArg (fun z => some (Value.int z)) e9, by rw [if_neg (by simp [okCp, t1, t2, z])]; exact ⟨A, L, I, hR, hS⟩, hF⟩
    have zz := hneg.mp z
    clear z
    have hok : okCp ln sz (nI i1) i (nI i2) j k = true := by simp [okCp, q1, q2, t1, t2, zz]
    rw [if_pos zz] at hsp
    rw [hcp] at zz
    have z2 : refS ln sz i2 c j k = 0 := by
      rcases Classical.em (refS ln sz i2 c j k = 0) with y | y
      · exact y
      · rw [if_neg y] at zz; exact zz
    rw [if_pos z2] at zz
    obtain ⟨_, b1⟩ := refS_ok zz
    obtain ⟨_, b2⟩ := refS_ok z2
    obtain ⟨i', w, rfl, rfl, b3, t3, t4⟩ := holdB_of b1
    obtain ⟨j', w', rfl, ew, b4, t5, t6⟩ := holdB_of b2
    rw [t4] at t6
    subst t6
    rw [hsp, t1, t2, t3, t4, t5] at hc
    rw [hcp, if_pos z2, zz]
    obtain ⟨σ0, hσ0⟩ : ∃ z, z = σ := ⟨_, rfl⟩
    rw [← hσ0] at hc
    have hF : Eqo 42 17 σ0 σ := by rw [hσ0]; exact Eqo.rf
    refine R.iconst hc ic_0 dX7_copy_88 ?_
    refine R.ist7 hc dX7_copy_89 (by decide) rfl ?_
    refine rl_down (P := fun x => ∀ (σ : Wd) (M : Nat → Nat → Int64), RW σ A M I → M 0 = L 0 → (∀ y, y < x → M 1 y = L 0 (24 * i1 + i' + y)) → Eqo 42 17 σ0 σ → R cx 0 0 n σ 91 [some (.ref 42), some (.int (nI i1)), some (.int (nI i')), some (.int (nI i2)), some (.int (nI j')), some (.int (nI w)), some (.int 0), some (.int (nI x))] []) w (fun σ M hR hM0 hM1 hF => ?_) (fun x hx ih σ M hR hM0 hM1 hF => ?_) 0 (Nat.zero_le _) σ L hR rfl (fun y hy => absurd hy (by omega)) hF
    rotate_left
    · refine R.iload (i := 7) hc rfl dX7_copy_91 ?_
      refine R.iload (i := 5) hc rfl dX7_copy_93 ?_
      refine R.icmpN_ge (tgt := 125) hc dX7_copy_95 (by decide) (by omega) (by omega) (fun z => absurd z (by omega)) (fun _ => ?_)
      refine R.aload_n (j := 0) (i := 0) hc rfl rfl dX7_copy_98 ?_
      refine R.get hc gf_X7_56_r dX7_copy_99 (hR.1) rfl ?_
      refine R.iload (i := 7) hc rfl dX7_copy_102 ?_
      refine R.aload_n (j := 0) (i := 0) hc rfl rfl dX7_copy_104 ?_
      refine R.get hc gf_X7_52_r dX7_copy_105 (hR.1) rfl ?_
      refine R.bipush hc bp_24 dX7_copy_108 ?_
      refine R.iload_n (j := 1) (i := 1) hc rfl rfl dX7_copy_110 ?_
      first | refine R.imulN hc dX7_copy_111 ?_ | refine R.imul hc dX7_copy_111 ?_
      refine R.iload_n (j := 2) (i := 2) hc rfl rfl dX7_copy_112 ?_
      first | refine R.iaddN hc dX7_copy_113 ?_ | refine R.iadd hc dX7_copy_113 ?_
      refine R.iload (i := 7) hc rfl dX7_copy_114 ?_
      first | refine R.iaddN hc dX7_copy_116 ?_ | refine R.iadd hc dX7_copy_116 ?_
      refine R.lald hc hR.h0 (by omega) (by decide) dX7_copy_117 ?_
      refine R.lastG hc dX7_copy_118 hR.h1 (by omega) (by decide) (fun σ hX hE => ?_)
      have hR := hR.v1 hX hE
      have hF := hF.tr (hE.wid (by omega))
      refine R.iinc7 hc dX7_copy_119 (iiN1 _) (by decide) rfl ?_
      refine R.goto (tgt := 91) hc dX7_copy_122 (by decide) ?_
      refine ih σ _ hR (by rw [L2_n (by omega)]; exact hM0) (fun y hy => ?_) hF
      rw [L2_s]
      by_cases e : y = x
      · rw [e, pk_uLs, hM0]
      · rw [pk_uLn e]; exact hM1 y (by omega)
    refine R.iload (i := 7) hc rfl dX7_copy_91 ?_
    refine R.iload (i := 5) hc rfl dX7_copy_93 ?_
    refine R.icmpN_ge (tgt := 125) hc dX7_copy_95 (by decide) (by omega) (by omega) (fun _ => ?_) (fun z => absurd (Nat.le_refl _) z)
    refine R.iconst hc ic_0 dX7_copy_125 ?_
    refine R.ist7 hc dX7_copy_126 (by decide) rfl ?_
    refine rl_down (P := fun x => ∀ (σ : Wd) (K : Nat → Nat → Int64), RW σ A K I → K 1 = M 1 → (∀ y, K 0 y = if 24 * i2 + j' ≤ y ∧ y < 24 * i2 + j' + x then L 0 (24 * i1 + i' + (y - (24 * i2 + j'))) else L 0 y) → Eqo 42 17 σ0 σ → R cx 0 0 n σ 128 [some (.ref 42), some (.int (nI i1)), some (.int (nI i')), some (.int (nI i2)), some (.int (nI j')), some (.int (nI w)), some (.int 0), some (.int (nI x))] []) w (fun σ K hR hK1 hK0 hF => ?_) (fun x hx ih σ K hR hK1 hK0 hF => ?_) 0 (Nat.zero_le _) σ M hR rfl (fun y => by rw [if_neg (by omega), hM0]) hF
    · refine R.iload (i := 7) hc rfl dX7_copy_128 ?_
      refine R.iload (i := 5) hc rfl dX7_copy_130 ?_
      refine R.icmpN_ge (tgt := 163) hc dX7_copy_132 (by decide) (by omega) (by omega) (fun _ => ?_) (fun z => absurd (Nat.le_refl _) z)
      refine R.iload (i := 5) hc rfl dX7_copy_163 ?_
      refine R.iret hc rfl dX7_copy_165 ⟨rfl, rfl, ?_, hF⟩
      rw [if_pos hok]
      refine ⟨A, K, I, hR, hS.itm (fun s hs i hi => ?_)⟩
      have v3 := (hV s hs).2
      rw [hK0]
      show _ = if s = i2 ∧ j' ≤ i ∧ i < j' + w then it i1 (i' + (i - j')) else it s i
      by_cases e : s = i2 ∧ j' ≤ i ∧ i < j' + w
      · obtain ⟨e1, e2, e3⟩ := e
        rw [if_pos (by omega), if_pos ⟨e1, e2, e3⟩, show 24 * i1 + i' + (24 * s + i - (24 * i2 + j')) = 24 * i1 + (i' + (i - j')) by omega]
        exact hS.i i1 g1 _ (by omega)
      · rw [if_neg (by omega), if_neg e]; exact hS.i s hs i hi
    · refine R.iload (i := 7) hc rfl dX7_copy_128 ?_
      refine R.iload (i := 5) hc rfl dX7_copy_130 ?_
      refine R.icmpN_ge (tgt := 163) hc dX7_copy_132 (by decide) (by omega) (by omega) (fun z => absurd z (by omega)) (fun _ => ?_)
      refine R.aload_n (j := 0) (i := 0) hc rfl rfl dX7_copy_135 ?_
      refine R.get hc gf_X7_52_r dX7_copy_136 (hR.1) rfl ?_
      refine R.bipush hc bp_24 dX7_copy_139 ?_
      refine R.iload_n (j := 3) (i := 3) hc rfl rfl dX7_copy_141 ?_
      first | refine R.imulN hc dX7_copy_142 ?_ | refine R.imul hc dX7_copy_142 ?_
      refine R.iload (i := 4) hc rfl dX7_copy_143 ?_
      first | refine R.iaddN hc dX7_copy_145 ?_ | refine R.iadd hc dX7_copy_145 ?_
      refine R.iload (i := 7) hc rfl dX7_copy_146 ?_
      first | refine R.iaddN hc dX7_copy_148 ?_ | refine R.iadd hc dX7_copy_148 ?_
      refine R.aload_n (j := 0) (i := 0) hc rfl rfl dX7_copy_149 ?_
      refine R.get hc gf_X7_56_r dX7_copy_150 (hR.1) rfl ?_
      refine R.iload (i := 7) hc rfl dX7_copy_153 ?_
      refine R.laldV hc hR.h1 (by omega) (by decide) dX7_copy_155 (show K 1 x = L 0 (24 * i1 + i' + x) by rw [hK1]; exact hM1 x hx) ?_
      refine R.lastG hc dX7_copy_156 hR.h0 (by omega) (by decide) (fun σ hX hE => ?_)
      have hR := hR.v0 hX hE
      have hF := hF.tr (hE.wid (by omega))
      refine R.iinc7 hc dX7_copy_157 (iiN1 _) (by decide) rfl ?_
      refine R.goto (tgt := 128) hc dX7_copy_160 (by decide) ?_
      refine ih σ _ hR (by rw [L2_n (by omega)]; exact hK1) (fun y => ?_) hF
      rw [L2_s]
      by_cases e : y = 24 * i2 + j' + x
      · rw [e, pk_uLs, if_pos (by omega), show 24 * i2 + j' + x - (24 * i2 + j') = x by omega]
      · rw [pk_uLn e, hK0]
        by_cases u : 24 * i2 + j' ≤ y ∧ y < 24 * i2 + j' + x
        · rw [if_pos u, if_pos (by omega)]
        · rw [if_neg u, if_neg (by omega)]
  refine R.if_ne (tgt := 76) hc dX7_copy_56 (by decide) (fun z => ?_) (fun z => ?_)
  · rw [if_neg z] at hcp
    refine R.iload (i := 6) hc rfl dX7_copy_76 ?_
    rw [← hcp]
    exact h78 _
  · rw [if_pos z] at hcp
    refine R.aload_n (j := 0) (i := 0) hc rfl rfl dX7_copy_59 ?_
    refine R.iload_n (j := 1) (i := 1) hc rfl rfl dX7_copy_60 ?_
    refine R.aload_n (j := 0) (i := 0) hc rfl rfl dX7_copy_61 ?_
    refine R.get hc gf_X7_46_r dX7_copy_62 (hR.1) rfl ?_
    refine R.iload_n (j := 1) (i := 1) hc rfl rfl dX7_copy_65 ?_
    refine R.ialdV hc hR.g12 (by omega) (by decide) dX7_copy_66 (hS.l i1 g1) ?_
    rw [hcl]
    simp only [lnI]
    refine R.iload_n (j := 2) (i := 2) hc rfl rfl dX7_copy_67 ?_
    refine R.iload (i := 5) hc rfl dX7_copy_68 ?_
    refine R.cVr hc m_X7_why lk_X7_242 dX7_copy_70 (c_X7_why l (d + 1) X n hR hS.l hS.s hV (by omega) (by omega) _ _) (hR.1) rfl rfl rfl (by omega) ⟨Nat.le_refl _, Nat.le_refl _⟩ (Nat.le_of_ble_eq_true rfl) ?_
    refine R.goto (tgt := 78) hc dX7_copy_73 (by decide) ?_
    rw [← hcp]
    exact h78 _
set_option maxHeartbeats 4000000 in
set_option maxRecDepth 100000 in
theorem c_X7_film (l : Launch) (d : Nat) (X : Nat × (Nat → Int32)) (n : Nat) {σ : Wd} {a : SA} {np nq hr dr : Nat} {hs : List SN} {im : IM} {tp : Nat → Nat} {tl : Nat} {ln sz : Nat → Nat} {it : Nat → Nat → Int64} (hC : RA σ a np nq hr dr hs im tp tl ln sz it) (hI : WI a np nq hr dr hs im tp tl ln sz) (p w s l9 i : Int32) : CN l yX7_film cX7_film 8 (some .int) ((d + 6)) X n [.ref 42, .int p, .int w, .int s, .int l9, .int i] σ (fun r σ' => r = some (.int (s_film np ln sz p w s l9 i)) ∧ ((if okF np ln sz p w s l9 i = true then RA σ' a np nq hr dr hs im tp tl ln sz (flm (fun k => (hoursN a np nq hr k) 2 (tN p)) it (tN s) (tN i) (tN l9) (tN w)) else RA σ' a np nq hr dr hs im tp tl ln sz it) ∧ Eqo 42 17 σ σ')) := by
  refine CN.of (by decide) [some (.ref 42), some (.int p), some (.int w), some (.int s), some (.int l9), some (.int i), none, none] (fun _ => Nat.le_of_ble_eq_true rfl) (fun _ => rfl) (fun cx hc => ?_)
  obtain ⟨A, L, I, hR, hS⟩ := hC
  obtain ⟨hW, hh, hdr, hwh, hwi, hU, hV⟩ := hI
  have hN := hS.n
  have hW1 := hW.1
  have hW2 := hW.2.1
  have hF : Eqo 42 17 σ σ := Eqo.rf
  refine R.aload_n (j := 0) (i := 0) hc rfl rfl dX7_film_0 ?_
  refine R.iload_n (j := 1) (i := 1) hc rfl rfl dX7_film_1 ?_
  refine R.cVr hc m_X7_isPuddle lk_X7_74 dX7_film_2 (c_X7_isPuddle l (d + 4) X n hR hN hW _) (hR.1) rfl rfl rfl (by omega) ⟨Nat.le_refl _, Nat.le_refl _⟩ (Nat.le_of_ble_eq_true rfl) ?_
  refine R.ifB_eq (tgt := 35) hc dX7_film_5 (by decide) (fun q0 => ?_) (fun q0 => ?_)
  · refine R.iconst hc ic_m1 dX7_film_35 ?_
    have e9 : (-1) = s_film np ln sz p w s l9 i := by simp [s_film, q0]
    exact R.iret hc rfl dX7_film_36 ⟨rfl, congrArg (fun z => some (Value.int z)) e9, by rw [if_neg (by simp [okF, q0])]; exact ⟨A, L, I, hR, hS⟩, hF⟩
  refine R.iload_n (j := 2) (i := 2) hc rfl rfl dX7_film_8 ?_
  refine R.i2l hc dX7_film_9 ?_
  refine R.lconst (j := 1) (v := lN 1) hc rfl dX7_film_10 ?_
  refine R.ldc2 hc kn_X7_249 dX7_film_11 ?_
  refine R.cSr hc m_X7_in lk_X7_59 dX7_film_14 (c_X7_in l (d + 5) X n _ _ _) rfl rfl (by omega) ⟨Nat.le_refl _, Nat.le_refl _⟩ (Nat.le_of_ble_eq_true rfl) ?_
  rw [inL_R (by decide) (by decide)]
  refine R.ifB_eq (tgt := 35) hc dX7_film_17 (by decide) (fun q1 => ?_) (fun q1 => ?_)
  · refine R.iconst hc ic_m1 dX7_film_35 ?_
    have e9 : (-1) = s_film np ln sz p w s l9 i := by simp [s_film, q1]
    exact R.iret hc rfl dX7_film_36 ⟨rfl, congrArg (fun z => some (Value.int z)) e9, by rw [if_neg (by simp [okF, q1])]; exact ⟨A, L, I, hR, hS⟩, hF⟩
  refine R.iload_n (j := 3) (i := 3) hc rfl rfl dX7_film_20 ?_
  refine R.cSr hc m_X7_isSheet lk_X7_232 dX7_film_21 (c_X7_isSheet l (d + 4) X n _) rfl rfl (by omega) ⟨Nat.le_refl _, Nat.le_refl _⟩ (Nat.le_of_ble_eq_true rfl) ?_
  refine R.ifB_eq (tgt := 35) hc dX7_film_24 (by decide) (fun q2 => ?_) (fun q2 => ?_)
  · refine R.iconst hc ic_m1 dX7_film_35 ?_
    have e9 : (-1) = s_film np ln sz p w s l9 i := by simp [s_film, q2]
    exact R.iret hc rfl dX7_film_36 ⟨rfl, congrArg (fun z => some (Value.int z)) e9, by rw [if_neg (by simp [okF, q2])]; exact ⟨A, L, I, hR, hS⟩, hF⟩
  refine R.iload (i := 4) hc rfl dX7_film_27 ?_
  refine R.cSr hc m_X7_isLane lk_X7_235 dX7_film_29 (c_X7_isLane l (d + 4) X n _) rfl rfl (by omega) ⟨Nat.le_refl _, Nat.le_refl _⟩ (Nat.le_of_ble_eq_true rfl) ?_
  refine R.ifB_ne (tgt := 37) hc dX7_film_32 (by decide) (fun q3 => ?_) (fun q3 => ?_)
  rotate_left
  · refine R.iconst hc ic_m1 dX7_film_35 ?_
    have e9 : (-1) = s_film np ln sz p w s l9 i := by simp [s_film, q3]
    exact R.iret hc rfl dX7_film_36 ⟨rfl, congrArg (fun z => some (Value.int z)) e9, by rw [if_neg (by simp [okF, q3])]; exact ⟨A, L, I, hR, hS⟩, hF⟩
  obtain ⟨i0, rfl, g0, t0⟩ := inI_tN (by omega) q0
  obtain ⟨i1, rfl, _, g1, t1⟩ := inR_of (by decide) (by decide) q1
  obtain ⟨i2, rfl, g2, t2⟩ := inI_tN (by decide) q2
  obtain ⟨i3, rfl, g3, t3⟩ := inI_tN (by decide) q3
  refine R.aload_n (j := 0) (i := 0) hc rfl rfl dX7_film_37 ?_
  refine R.iload_n (j := 3) (i := 3) hc rfl rfl dX7_film_38 ?_
  refine R.iload (i := 4) hc rfl dX7_film_39 ?_
  refine R.iload (i := 5) hc rfl dX7_film_41 ?_
  refine R.iload_n (j := 2) (i := 2) hc rfl rfl dX7_film_43 ?_
  refine R.cVr hc m_X7_why lk_X7_242 dX7_film_44 (c_X7_why l (d + 5) X n hR hS.l hS.s hV (by omega) (by omega) _ _) (hR.1) rfl rfl rfl (by omega) ⟨Nat.le_refl _, Nat.le_refl _⟩ (Nat.le_of_ble_eq_true rfl) ?_
  refine R.ist6 hc dX7_film_47 (by decide) rfl ?_
  refine R.iload (i := 6) hc rfl dX7_film_49 ?_
  refine R.if_ge (tgt := 57) hc dX7_film_51 (by decide) (fun z => ?_) (fun z => ?_)
  rotate_left
  · have z : ¬ refS ln sz i2 i3 i (nI i1) = 0 := fun y => z (refS_ge.mpr y)
    refine R.iload (i := 6) hc rfl dX7_film_54 ?_
    have e9 : refS ln sz i2 i3 i (nI i1) = s_film np ln sz (nI i0) (nI i1) (nI i2) (nI i3) i := by simp [s_film, q0, q1, q2, q3, t2, t3, z]
    exact R.iret hc rfl dX7_film_56 ⟨rfl, congrArg (fun z => some (Value.int z)) e9, by rw [if_neg (by simp [okF, t2, t3, z])]; exact ⟨A, L, I, hR, hS⟩, hF⟩
  have z := refS_ge.mp z
  have hok : okF np ln sz (nI i0) (nI i1) (nI i2) (nI i3) i = true := by simp [okF, q0, q1, q2, q3, t2, t3, z]
  have hA : s_film np ln sz (nI i0) (nI i1) (nI i2) (nI i3) i = nI i1 := by simp [s_film, q0, q1, q2, q3, t2, t3, z]
  obtain ⟨_, h2⟩ := refS_ok z
  obtain ⟨j, k1, rfl, hk1, h3, t4, t5⟩ := holdB_of h2
  rw [t1] at t5
  subst t5
  obtain ⟨v1, v2⟩ := hV i2 g2
  rw [hA, t0, t1, t2, t3, t4] at hc
  obtain ⟨r6, hr6⟩ : ∃ z, z = refS ln sz i2 i3 (nI j) (nI i1) := ⟨_, rfl⟩
  rw [← hr6]
  obtain ⟨σ0, hσ0⟩ : ∃ z, z = σ := ⟨_, rfl⟩
  rw [← hσ0] at hc
  have hF : Eqo 42 17 σ0 σ := by rw [hσ0]; exact Eqo.rf
  refine R.aload_n (j := 0) (i := 0) hc rfl rfl dX7_film_57 ?_
  refine R.cVu hc m_X7_asides lk_X7_204 dX7_film_58 (c_X7_asides l (d + 5) X n hR) (hR.1) rfl rfl rfl (by omega) ⟨Nat.le_refl _, Nat.le_refl _⟩ (Nat.le_of_ble_eq_true rfl) (fun σ hX => ?_)
  obtain ⟨B, hR, hB, hBk, hE⟩ := hX
  have hF := hF.tr hE
  have hFr : ∀ k, k = 2 ∨ k = 5 ∨ 11 ≤ k → B k = A k := fun k hk => hBk k (by omega)
  have hN : NowR (B 0) a np nq hr dr := by rw [hBk 0 (by omega)]; exact hN
  refine R.iconst hc ic_0 dX7_film_61 ?_
  refine R.ist7 hc dX7_film_62 (by decide) rfl ?_
  refine rl_down (P := fun k => ∀ (σ : Wd) (B : Nat → Nat → Int32) (K : Nat → Nat → Int64), RW σ B K I → NowR (B 0) (hoursN a np nq hr k) np nq (hr + k) dr → (∀ j, j < 49 → B 6 j = A 0 j) → (∀ k, k = 2 ∨ k = 5 ∨ 11 ≤ k → B k = A k) → (∀ s, s < 4 → ∀ i, i < sz s → K 0 (24 * s + i) = (flm (fun k => (hoursN a np nq hr k) 2 i0) it i2 j i3 k) s i) → Eqo 42 17 σ0 σ → R cx 0 0 n σ 64 [some (.ref 42), some (.int (nI i0)), some (.int (nI i1)), some (.int (nI i2)), some (.int (nI i3)), some (.int (nI j)), some (.int r6), some (.int (nI k))] []) i1 (fun σ B K hR hN hB hFr hK hF => ?_) (fun k hk ih σ B K hR hN hB hFr hK hF => ?_) 0 (Nat.zero_le _) σ B L hR hN hB hFr hS.i hF
  · refine R.iload (i := 7) hc rfl dX7_film_64 ?_
    refine R.iload_n (j := 2) (i := 2) hc rfl rfl dX7_film_66 ?_
    refine R.icmpN_ge (tgt := 101) hc dX7_film_67 (by decide) (by omega) (by omega) (fun _ => ?_) (fun z => absurd (Nat.le_refl _) z)
    refine R.aload_n (j := 0) (i := 0) hc rfl rfl dX7_film_101 ?_
    refine R.cVu hc m_X7_backs lk_X7_210 dX7_film_102 (c_X7_backs l (d + 5) X n hR) (hR.1) rfl rfl rfl (by omega) ⟨Nat.le_refl _, Nat.le_refl _⟩ (Nat.le_of_ble_eq_true rfl) (fun σ hX => ?_)
    obtain ⟨B, hR, hB0, hBk, hE⟩ := hX
    have hF := hF.tr hE
    have hN0 : ∀ j, j < 49 → B 0 j = A 0 j := fun j hj => (hB0 j hj).trans (hB j hj)
    have hN : NowR (B 0) a np nq hr dr := hS.n.ag hW1 hW2 hN0
    have hB : ∀ j, j < 49 → B 6 j = A 0 j := fun j hj => by rw [hBk 6 (by omega)]; exact hB j hj
    have hFr : ∀ k, k = 2 ∨ k = 5 ∨ 11 ≤ k → B k = A k := fun k hk => (hBk k (by omega)).trans (hFr k hk)
    refine R.iload_n (j := 2) (i := 2) hc rfl rfl dX7_film_105 ?_
    exact R.iret hc rfl dX7_film_106 ⟨rfl, rfl, by rw [if_pos hok]; exact ⟨B, K, I, hR, (hS.q hW1 hW2 hN0 hFr).itm hK⟩, hF⟩
  · have d60 := ((WF_hoursN (hr := hr) hW (k + 1)).2.2.1 i0 g0).2.2
    refine R.iload (i := 7) hc rfl dX7_film_64 ?_
    refine R.iload_n (j := 2) (i := 2) hc rfl rfl dX7_film_66 ?_
    refine R.icmpN_ge (tgt := 101) hc dX7_film_67 (by decide) (by omega) (by omega) (fun z => absurd z (by omega)) (fun _ => ?_)
    refine R.aload_n (j := 0) (i := 0) hc rfl rfl dX7_film_70 ?_
    refine R.cVu hc m_X7_goesBy lk_X7_106 dX7_film_71 (c_X7_goesBy l d X n hR hN (WF_hoursN hW k) (by omega)) (hR.1) rfl rfl rfl (by omega) ⟨Nat.le_refl _, Nat.le_refl _⟩ (Nat.le_of_ble_eq_true rfl) (fun σ hX => ?_)
    obtain ⟨C, hR, hN, hCk, hE⟩ := hX
    have hF := hF.tr hE
    have hB : ∀ j, j < 49 → C 6 j = A 0 j := fun j hj => by rw [hCk 6 (by omega)]; exact hB j hj
    have hFr : ∀ k, k = 2 ∨ k = 5 ∨ 11 ≤ k → C k = A k := fun k hk => (hCk k (by omega)).trans (hFr k hk)
    refine R.aload_n (j := 0) (i := 0) hc rfl rfl dX7_film_74 ?_
    refine R.get hc gf_X7_52_r dX7_film_75 (hR.1) rfl ?_
    refine R.bipush hc bp_24 dX7_film_78 ?_
    refine R.iload_n (j := 3) (i := 3) hc rfl rfl dX7_film_80 ?_
    first | refine R.imulN hc dX7_film_81 ?_ | refine R.imul hc dX7_film_81 ?_
    refine R.iload (i := 5) hc rfl dX7_film_82 ?_
    first | refine R.iaddN hc dX7_film_84 ?_ | refine R.iadd hc dX7_film_84 ?_
    refine R.iload (i := 7) hc rfl dX7_film_85 ?_
    first | refine R.iaddN hc dX7_film_87 ?_ | refine R.iadd hc dX7_film_87 ?_
    refine R.aload_n (j := 0) (i := 0) hc rfl rfl dX7_film_88 ?_
    refine R.iload_n (j := 1) (i := 1) hc rfl rfl dX7_film_89 ?_
    refine R.cVr hc m_X7_deep lk_X7_78 dX7_film_90 (n_X7_deep l (d + 4) X n hR hN (WF_hoursN hW (k + 1)) (by omega)) (hR.1) rfl rfl rfl (by omega) ⟨Nat.le_refl _, Nat.le_refl _⟩ (Nat.le_of_ble_eq_true rfl) ?_
    refine R.i2l hc dX7_film_93 ?_
    refine R.lastG hc dX7_film_94 hR.h0 (by omega) (by decide) (fun σ hX hE => ?_)
    have hR := hR.v0 hX hE
    have hF := hF.tr (hE.wid (by omega))
    refine R.iinc7 hc dX7_film_95 (iiN1 _) (by decide) rfl ?_
    refine R.goto (tgt := 64) hc dX7_film_98 (by decide) ?_
    refine ih σ C _ hR hN hB hFr (fun s hs i hi => ?_) hF
    have v3 := (hV s hs).2
    rw [L2_s, flm]
    show _ = if s = i2 ∧ i = j + k then cutL i3 (nI (hoursN a np nq hr (k + 1) 2 i0)).toInt64 else _
    by_cases e : s = i2 ∧ i = j + k
    · rw [if_pos e, cutL_c g3 d60, e.1, e.2, ← Nat.add_assoc, pk_uLs]; rfl
    · rw [if_neg e, pk_uLn (by omega)]; exact hK s hs i hi
set_option maxHeartbeats 4000000 in
set_option maxRecDepth 100000 in
theorem c_X7_isSo (l : Launch) (d : Nat) (X : Nat × (Nat → Int32)) (n : Nat) {σ : Wd} {A : Nat → Nat → Int32} {L : Nat → Nat → Int64} {I : Nat → Int32} (hR : RW σ A L I) {a : SA} {np nq hr dr : Nat} (hN : NowR (A 0) a np nq hr dr) (hW : WF a np nq) {it : Nat → Nat → Int64} {p s i w o : Nat} (hh : hr ≤ 9999) (hp : p < np) (how : o + w ≤ 96) (hw : w ≤ 8) (hit : ∀ k, k < w → L 0 (o + k) = it s (i + k)) : CN l yX7_isSo cX7_isSo 6 (some .boolean) ((d + 6)) X n [.ref 42, .int (nI p), .int (nI o), .int (nI w)] σ (fun v σ' => v = some (.int (b2 (agB it s i (fun k => hoursN a np nq hr k 2 p) w 0))) ∧ ∃ A', RW σ' A' L I ∧ (∀ j, j < 49 → A' 0 j = A 6 j) ∧ (∀ k, 2 ≤ k → A' k = A k) ∧ Eqo 42 17 σ σ') := by
  refine CN.of (by decide) [some (.ref 42), some (.int (nI p)), some (.int (nI o)), some (.int (nI w)), none, none] (fun _ => Nat.le_of_ble_eq_true rfl) (fun _ => rfl) (fun cx hc => ?_)
  have hW1 := hW.1
  have hW2 := hW.2.1
  have hF : Eqo 42 17 σ σ := Eqo.rf
  obtain ⟨σ0, hσ0⟩ : ∃ z, z = σ := ⟨_, rfl⟩
  rw [← hσ0] at hc
  have hF : Eqo 42 17 σ0 σ := by rw [hσ0]; exact Eqo.rf
  obtain ⟨ans, hans⟩ : ∃ z, z = agB it s i (fun k => hoursN a np nq hr k 2 p) w 0 := ⟨_, rfl⟩
  rw [← hans] at hc
  refine R.iconst hc ic_1 dX7_isSo_0 ?_
  refine R.ist4 hc dX7_isSo_1 (by decide) rfl ?_
  refine R.iconst hc ic_0 dX7_isSo_3 ?_
  refine R.ist5 hc dX7_isSo_4 (by decide) rfl ?_
  have key : ∀ (j k : Nat) (acc : Bool) (σ : Wd) (B : Nat → Nat → Int32), k + j = w → (acc && agB it s i (fun k => hoursN a np nq hr k 2 p) j k) = ans → RW σ B L I → NowR (B 0) (hoursN a np nq hr k) np nq (hr + k) dr → (∀ k, 2 ≤ k → B k = A k) → Eqo 42 17 σ0 σ → R cx 0 0 n σ 6 [some (.ref 42), some (.int (nI p)), some (.int (nI o)), some (.int (nI w)), some (.int (b2 acc)), some (.int (nI k))] [] := by
    intro j
    induction j with
    | zero =>
      intro k acc σ B hk e hR hN hFr hF
      rw [agB, Bool.and_true] at e
      subst e
      refine R.iload (i := 5) hc rfl dX7_isSo_6 ?_
      refine R.iload_n (j := 3) (i := 3) hc rfl rfl dX7_isSo_8 ?_
      refine R.icmpN_ge (tgt := 53) hc dX7_isSo_9 (by decide) (by omega) (by omega) (fun _ => ?_) (fun z => absurd (by omega) z)
      refine R.aload_n (j := 0) (i := 0) hc rfl rfl dX7_isSo_53 ?_
      refine R.cVu hc m_X7_backs lk_X7_210 dX7_isSo_54 (c_X7_backs l (d + 5) X n hR) (hR.1) rfl rfl rfl (by omega) ⟨Nat.le_refl _, Nat.le_refl _⟩ (Nat.le_of_ble_eq_true rfl) (fun σ hX => ?_)
      obtain ⟨C, hR, hC0, hCk, hE⟩ := hX
      have hF := hF.tr hE
      refine R.iload (i := 4) hc rfl dX7_isSo_57 ?_
      exact R.bret (c := acc) hc rfl dX7_isSo_59 rfl ⟨rfl, rfl, C, hR, fun j hj => by rw [hC0 j hj, hFr 6 (by omega)], fun k hk => (hCk k (by omega)).trans (hFr k hk), hF⟩
    | succ j ih =>
      intro k acc σ B hk e hR hN hFr hF
      rw [agB] at e
      refine R.iload (i := 5) hc rfl dX7_isSo_6 ?_
      refine R.iload_n (j := 3) (i := 3) hc rfl rfl dX7_isSo_8 ?_
      refine R.icmpN_ge (tgt := 53) hc dX7_isSo_9 (by decide) (by omega) (by omega) (fun z => absurd z (by omega)) (fun _ => ?_)
      refine R.aload_n (j := 0) (i := 0) hc rfl rfl dX7_isSo_12 ?_
      refine R.cVu hc m_X7_goesBy lk_X7_106 dX7_isSo_13 (c_X7_goesBy l d X n hR hN (WF_hoursN hW k) (by omega)) (hR.1) rfl rfl rfl (by omega) ⟨Nat.le_refl _, Nat.le_refl _⟩ (Nat.le_of_ble_eq_true rfl) (fun σ hX => ?_)
      obtain ⟨C, hR, hN, hCk, hE⟩ := hX
      have hF := hF.tr hE
      have hFr : ∀ k, 2 ≤ k → C k = A k := fun k hk => (hCk k hk).trans (hFr k hk)
      refine R.iload (i := 4) hc rfl dX7_isSo_16 ?_
      refine R.ifB_eq (tgt := 44) hc dX7_isSo_18 (by decide) (fun z => ?_) (fun z => ?_)
      · subst z
        refine R.iconst hc ic_0 dX7_isSo_44 ?_
        refine R.ist4 hc dX7_isSo_45 (by decide) rfl ?_
        refine R.iinc5 hc dX7_isSo_47 (iiN1 _) (by decide) rfl ?_
        refine R.goto (tgt := 6) hc dX7_isSo_50 (by decide) ?_
        exact ih (k + 1) false σ C (by omega) (by rw [Bool.false_and] at e ⊢; exact e) hR hN hFr hF
      · subst z
        rw [Bool.true_and] at e
        refine R.aload_n (j := 0) (i := 0) hc rfl rfl dX7_isSo_21 ?_
        refine R.iload_n (j := 1) (i := 1) hc rfl rfl dX7_isSo_22 ?_
        refine R.cVr hc m_X7_deep lk_X7_78 dX7_isSo_23 (n_X7_deep l (d + 4) X n hR hN (WF_hoursN hW (k + 1)) (by omega)) (hR.1) rfl rfl rfl (by omega) ⟨Nat.le_refl _, Nat.le_refl _⟩ (Nat.le_of_ble_eq_true rfl) ?_
        refine R.i2l hc dX7_isSo_26 ?_
        refine R.aload_n (j := 0) (i := 0) hc rfl rfl dX7_isSo_27 ?_
        refine R.get hc gf_X7_52_r dX7_isSo_28 (hR.1) rfl ?_
        refine R.iload_n (j := 2) (i := 2) hc rfl rfl dX7_isSo_31 ?_
        refine R.iload (i := 5) hc rfl dX7_isSo_32 ?_
        first | refine R.iaddN hc dX7_isSo_34 ?_ | refine R.iadd hc dX7_isSo_34 ?_
        refine R.laldV hc hR.h0 (by omega) (by decide) dX7_isSo_35 (hit k (by omega)) ?_
        refine R.lcmp hc dX7_isSo_36 ?_
        refine R.if_ne (tgt := 44) hc dX7_isSo_37 (by decide) (fun y => ?_) (fun y => ?_)
        · have y : ¬ it s (i + k) = (nI (hoursN a np nq hr (k + 1) 2 p)).toInt64 := fun u => y ((lcmp0 _ _).mpr u.symm)
          rw [if_neg y] at e
          refine R.iconst hc ic_0 dX7_isSo_44 ?_
          refine R.ist4 hc dX7_isSo_45 (by decide) rfl ?_
          refine R.iinc5 hc dX7_isSo_47 (iiN1 _) (by decide) rfl ?_
          refine R.goto (tgt := 6) hc dX7_isSo_50 (by decide) ?_
          exact ih (k + 1) false σ C (by omega) (by rw [Bool.false_and]; exact e) hR hN hFr hF
        · have y : it s (i + k) = (nI (hoursN a np nq hr (k + 1) 2 p)).toInt64 := ((lcmp0 _ _).mp y).symm
          rw [if_pos y] at e
          refine R.iconst hc ic_1 dX7_isSo_40 ?_
          refine R.goto (tgt := 45) hc dX7_isSo_41 (by decide) ?_
          refine R.ist4 hc dX7_isSo_45 (by decide) rfl ?_
          refine R.iinc5 hc dX7_isSo_47 (iiN1 _) (by decide) rfl ?_
          refine R.goto (tgt := 6) hc dX7_isSo_50 (by decide) ?_
          exact ih (k + 1) true σ C (by omega) (by rw [Bool.true_and]; exact e) hR hN hFr hF
  exact key w 0 true σ A (by omega) (by rw [Bool.true_and]; exact hans.symm) hR hN (fun _ _ => rfl) hF
set_option maxHeartbeats 4000000 in
set_option maxRecDepth 100000 in
theorem c_X7_dipped (l : Launch) (d : Nat) (X : Nat × (Nat → Int32)) (n : Nat) {σ : Wd} {a : SA} {np nq hr dr : Nat} {hs : List SN} {im : IM} {tp : Nat → Nat} {tl : Nat} {ln sz : Nat → Nat} {it : Nat → Nat → Int64} (hC : RA σ a np nq hr dr hs im tp tl ln sz it) (hI : WI a np nq hr dr hs im tp tl ln sz) (p s l9 i w v : Int32) : CN l yX7_dipped cX7_dipped 14 (some .int) ((d + 7)) X n [.ref 42, .int p, .int s, .int l9, .int i, .int w, .int v] σ (fun r σ' => r = some (.int (s_dipped a np nq hr ln sz it p s l9 i w v)) ∧ (RA σ' a np nq hr dr hs im tp tl ln sz it ∧ Eqo 42 17 σ σ')) := by
  refine CN.of (by decide) [some (.ref 42), some (.int p), some (.int s), some (.int l9), some (.int i), some (.int w), some (.int v), none, none, none, none, none, none, none] (fun _ => Nat.le_of_ble_eq_true rfl) (fun _ => rfl) (fun cx hc => ?_)
  obtain ⟨A, L, I, hR, hS⟩ := hC
  obtain ⟨hW, hh, hdr, hwh, hwi, hU, hV⟩ := hI
  have hN := hS.n
  have hW1 := hW.1
  have hW2 := hW.2.1
  have hF : Eqo 42 17 σ σ := Eqo.rf
  refine R.aload_n (j := 0) (i := 0) hc rfl rfl dX7_dipped_0 ?_
  refine R.iload_n (j := 1) (i := 1) hc rfl rfl dX7_dipped_1 ?_
  refine R.cVr hc m_X7_isPuddle lk_X7_74 dX7_dipped_2 (c_X7_isPuddle l (d + 5) X n hR hN hW _) (hR.1) rfl rfl rfl (by omega) ⟨Nat.le_refl _, Nat.le_refl _⟩ (Nat.le_of_ble_eq_true rfl) ?_
  refine R.ifB_eq (tgt := 48) hc dX7_dipped_5 (by decide) (fun q0 => ?_) (fun q0 => ?_)
  · refine R.iconst hc ic_m1 dX7_dipped_48 ?_
    have e9 : (-1) = s_dipped a np nq hr ln sz it p s l9 i w v := by simp [s_dipped, q0]
    exact R.iret hc rfl dX7_dipped_49 ⟨rfl, congrArg (fun z => some (Value.int z)) e9, ⟨A, L, I, hR, hS⟩, hF⟩
  refine R.iload_n (j := 2) (i := 2) hc rfl rfl dX7_dipped_8 ?_
  refine R.cSr hc m_X7_isSheet lk_X7_232 dX7_dipped_9 (c_X7_isSheet l (d + 5) X n _) rfl rfl (by omega) ⟨Nat.le_refl _, Nat.le_refl _⟩ (Nat.le_of_ble_eq_true rfl) ?_
  refine R.ifB_eq (tgt := 48) hc dX7_dipped_12 (by decide) (fun q1 => ?_) (fun q1 => ?_)
  · refine R.iconst hc ic_m1 dX7_dipped_48 ?_
    have e9 : (-1) = s_dipped a np nq hr ln sz it p s l9 i w v := by simp [s_dipped, q1]
    exact R.iret hc rfl dX7_dipped_49 ⟨rfl, congrArg (fun z => some (Value.int z)) e9, ⟨A, L, I, hR, hS⟩, hF⟩
  refine R.iload_n (j := 3) (i := 3) hc rfl rfl dX7_dipped_15 ?_
  refine R.cSr hc m_X7_isLane lk_X7_235 dX7_dipped_16 (c_X7_isLane l (d + 5) X n _) rfl rfl (by omega) ⟨Nat.le_refl _, Nat.le_refl _⟩ (Nat.le_of_ble_eq_true rfl) ?_
  refine R.ifB_eq (tgt := 48) hc dX7_dipped_19 (by decide) (fun q2 => ?_) (fun q2 => ?_)
  · refine R.iconst hc ic_m1 dX7_dipped_48 ?_
    have e9 : (-1) = s_dipped a np nq hr ln sz it p s l9 i w v := by simp [s_dipped, q2]
    exact R.iret hc rfl dX7_dipped_49 ⟨rfl, congrArg (fun z => some (Value.int z)) e9, ⟨A, L, I, hR, hS⟩, hF⟩
  refine R.iload (i := 5) hc rfl dX7_dipped_22 ?_
  refine R.i2l hc dX7_dipped_24 ?_
  refine R.lconst (j := 1) (v := lN 1) hc rfl dX7_dipped_25 ?_
  refine R.ldc2 hc kn_X7_238 dX7_dipped_26 ?_
  refine R.cSr hc m_X7_in lk_X7_59 dX7_dipped_29 (c_X7_in l (d + 6) X n _ _ _) rfl rfl (by omega) ⟨Nat.le_refl _, Nat.le_refl _⟩ (Nat.le_of_ble_eq_true rfl) ?_
  rw [inL_R (by decide) (by decide)]
  refine R.ifB_eq (tgt := 48) hc dX7_dipped_32 (by decide) (fun q3 => ?_) (fun q3 => ?_)
  · refine R.iconst hc ic_m1 dX7_dipped_48 ?_
    have e9 : (-1) = s_dipped a np nq hr ln sz it p s l9 i w v := by simp [s_dipped, q3]
    exact R.iret hc rfl dX7_dipped_49 ⟨rfl, congrArg (fun z => some (Value.int z)) e9, ⟨A, L, I, hR, hS⟩, hF⟩
  refine R.iload (i := 6) hc rfl dX7_dipped_35 ?_
  refine R.i2l hc dX7_dipped_37 ?_
  refine R.lconst (j := 0) (v := lN 0) hc rfl dX7_dipped_38 ?_
  refine R.ldc2 hc kn_X7_240 dX7_dipped_39 ?_
  refine R.cSr hc m_X7_in lk_X7_59 dX7_dipped_42 (c_X7_in l (d + 6) X n _ _ _) rfl rfl (by omega) ⟨Nat.le_refl _, Nat.le_refl _⟩ (Nat.le_of_ble_eq_true rfl) ?_
  rw [inL_R (by decide) (by decide)]
  refine R.ifB_ne (tgt := 50) hc dX7_dipped_45 (by decide) (fun q4 => ?_) (fun q4 => ?_)
  rotate_left
  · refine R.iconst hc ic_m1 dX7_dipped_48 ?_
    have e9 : (-1) = s_dipped a np nq hr ln sz it p s l9 i w v := by simp [s_dipped, q4]
    exact R.iret hc rfl dX7_dipped_49 ⟨rfl, congrArg (fun z => some (Value.int z)) e9, ⟨A, L, I, hR, hS⟩, hF⟩
  obtain ⟨i0, rfl, g0, t0⟩ := inI_tN (by omega) q0
  obtain ⟨i1, rfl, g1, t1⟩ := inI_tN (by decide) q1
  obtain ⟨i2, rfl, g2, t2⟩ := inI_tN (by decide) q2
  obtain ⟨i3, rfl, _, g3, t3⟩ := inR_of (by decide) (by decide) q3
  obtain ⟨i4, rfl, _, g4, t4⟩ := inR_of (by decide) (by decide) q4
  have hsp : s_dipped a np nq hr ln sz it (nI i0) (nI i1) (nI i2) i (nI i3) (nI i4) = if refS ln sz i1 i2 i (nI i3) = 0 then dipA a np nq hr it i0 i1 (tN i) i3 i4 else refS ln sz i1 i2 i (nI i3) := by simp [s_dipped, q0, q1, q2, q3, q4, t0, t1, t2, t3, t4]
  rw [hsp] at hc
  refine R.aload_n (j := 0) (i := 0) hc rfl rfl dX7_dipped_50 ?_
  refine R.iload_n (j := 2) (i := 2) hc rfl rfl dX7_dipped_51 ?_
  refine R.iload_n (j := 3) (i := 3) hc rfl rfl dX7_dipped_52 ?_
  refine R.iload (i := 4) hc rfl dX7_dipped_53 ?_
  refine R.iload (i := 5) hc rfl dX7_dipped_55 ?_
  refine R.cVr hc m_X7_why lk_X7_242 dX7_dipped_57 (c_X7_why l (d + 6) X n hR hS.l hS.s hV (by omega) (by omega) _ _) (hR.1) rfl rfl rfl (by omega) ⟨Nat.le_refl _, Nat.le_refl _⟩ (Nat.le_of_ble_eq_true rfl) ?_
  refine R.ist7 hc dX7_dipped_60 (by decide) rfl ?_
  refine R.iload (i := 7) hc rfl dX7_dipped_62 ?_
  refine R.if_ge (tgt := 70) hc dX7_dipped_64 (by decide) (fun z => ?_) (fun z => ?_)
  rotate_left
  · have z : ¬ refS ln sz i1 i2 i (nI i3) = 0 := fun y => z (refS_ge.mpr y)
    rw [if_neg z] at hc
    refine R.iload (i := 7) hc rfl dX7_dipped_67 ?_
    exact R.iret hc rfl dX7_dipped_69 ⟨rfl, rfl, ⟨A, L, I, hR, hS⟩, hF⟩
  have z := refS_ge.mp z
  rw [if_pos z] at hc
  obtain ⟨_, h2⟩ := refS_ok z
  obtain ⟨j, k1, rfl, hk1, h3, t5, t6⟩ := holdB_of h2
  rw [t3] at t6
  subst t6
  obtain ⟨v1, v2⟩ := hV i1 g1
  rw [t5] at hc
  obtain ⟨r6, hr6⟩ : ∃ z, z = refS ln sz i1 i2 (nI j) (nI i3) := ⟨_, rfl⟩
  rw [← hr6]
  have hit : ∀ k, k < i3 → L 0 (24 * i1 + j + k) = it i1 (j + k) := fun k hk => by rw [Nat.add_assoc]; exact hS.i i1 g1 (j + k) (by omega)
  obtain ⟨kk, hkk⟩ : ∃ z, z = if i4 = 0 then 0 else 2 := ⟨_, rfl⟩
  obtain ⟨lim, hlim⟩ : ∃ z, z = if i4 = 0 then 5 else 61 := ⟨_, rfl⟩
  have hkl : kk < 3 ∧ lim ≤ 61 ∧ (kk = 0 → lim = 5) ∧ (kk = 0 ∨ kk = 2) := by
    by_cases y : i4 = 0
    · rw [if_pos y] at hkk hlim; omega
    · rw [if_neg y] at hkk hlim; omega
  obtain ⟨P, hP⟩ : ∃ z : Nat → Bool, z = fun z => agB it i1 j (fun k => hoursN (a2 a kk i0 z) np nq hr k 2 i0) i3 0 := ⟨_, rfl⟩
  have hdp := dpF_le P
  have hbl : ∀ v, bsN P v < 2 ^ v := bsN_lt P
  have hans : dipA a np nq hr it i0 i1 j i3 i4 = if i4 = 0 then nI (bsN P lim) else if i4 = 1 then nI (dpF P lim).1 else cI (dpF P lim).2 := by
    unfold dipA
    by_cases y : i4 = 0
    · rw [if_pos y, if_pos y, hP]
      rw [if_pos y] at hkk hlim
      rw [hlim, hkk]
    · rw [if_neg y, if_neg y]
      rw [if_neg y] at hkk hlim
      rw [hP, hlim, hkk]
      by_cases u : i4 = 1
      · rw [if_pos u, if_neg (by omega)]
      · rw [if_neg u, if_pos (by omega)]
  rw [hans] at hc
  obtain ⟨σ0, hσ0⟩ : ∃ z, z = σ := ⟨_, rfl⟩
  rw [← hσ0] at hc
  have hF : Eqo 42 17 σ0 σ := by rw [hσ0]; exact Eqo.rf
  have lp : ∀ v, v ≤ lim → ∀ (σ : Wd) (B : Nat → Nat → Int32), RW σ B L I → (∀ j, j < 49 → B 0 j = A 0 j) → (∀ j, j < 49 → B 6 j = A 0 j) → (∀ k, k = 2 ∨ k = 5 ∨ 11 ≤ k → B k = A k) → Eqo 42 17 σ0 σ → R cx 0 0 n σ 105 [some (.ref 42), some (.int (nI i0)), some (.int (nI i1)), some (.int (nI i2)), some (.int (nI j)), some (.int (nI i3)), some (.int (nI i4)), some (.int r6), some (.int (nI (if i4 = 0 then bsN P v else 0))), some (.int (nI (dpF P v).1)), some (.int (cI (dpF P v).2)), some (.int (nI (4 + 3 * i0 + kk))), some (.int (nI v)), none] [] := by
    refine rl_down (P := fun v => ∀ (σ : Wd) (B : Nat → Nat → Int32), RW σ B L I → (∀ j, j < 49 → B 0 j = A 0 j) → (∀ j, j < 49 → B 6 j = A 0 j) → (∀ k, k = 2 ∨ k = 5 ∨ 11 ≤ k → B k = A k) → Eqo 42 17 σ0 σ → R cx 0 0 n σ 105 [some (.ref 42), some (.int (nI i0)), some (.int (nI i1)), some (.int (nI i2)), some (.int (nI j)), some (.int (nI i3)), some (.int (nI i4)), some (.int r6), some (.int (nI (if i4 = 0 then bsN P v else 0))), some (.int (nI (dpF P v).1)), some (.int (cI (dpF P v).2)), some (.int (nI (4 + 3 * i0 + kk))), some (.int (nI v)), none] []) lim (fun σ B hR hN0 hB hFr hF => ?_) (fun v hv ih σ B hR hN0 hB hFr hF => ?_)
    · have fin : R cx 0 0 n σ 209 [some (.ref 42), some (.int (nI i0)), some (.int (nI i1)), some (.int (nI i2)), some (.int (nI j)), some (.int (nI i3)), some (.int (nI i4)), some (.int r6), some (.int (nI (if i4 = 0 then bsN P lim else 0))), some (.int (nI (dpF P lim).1)), some (.int (cI (dpF P lim).2)), some (.int (nI (4 + 3 * i0 + kk))), some (.int (nI lim)), none] [] := by
        refine R.iload (i := 6) hc rfl dX7_dipped_209 ?_
        refine R.ifN_ne (tgt := 219) hc dX7_dipped_211 (by decide) (by omega) (fun y => ?_) (fun y => ?_)
        · rw [if_neg y] at hc ⊢
          refine R.iload (i := 6) hc rfl dX7_dipped_219 ?_
          refine R.iconst hc ic_1 dX7_dipped_221 ?_
          refine R.icmpN_ne (tgt := 230) hc dX7_dipped_222 (by decide) (by omega) (by omega) (fun u => ?_) (fun u => ?_)
          · rw [if_neg u] at hc
            refine R.iload (i := 10) hc rfl dX7_dipped_230 ?_
            exact R.iret hc rfl dX7_dipped_232 ⟨rfl, rfl, ⟨B, L, I, hR, hS.q hW1 hW2 hN0 hFr⟩, hF⟩
          · rw [if_pos u] at hc
            refine R.iload (i := 9) hc rfl dX7_dipped_225 ?_
            refine R.goto (tgt := 232) hc dX7_dipped_227 (by decide) ?_
            exact R.iret hc rfl dX7_dipped_232 ⟨rfl, rfl, ⟨B, L, I, hR, hS.q hW1 hW2 hN0 hFr⟩, hF⟩
        · rw [if_pos y] at hc ⊢
          refine R.iload (i := 8) hc rfl dX7_dipped_214 ?_
          refine R.goto (tgt := 232) hc dX7_dipped_216 (by decide) ?_
          exact R.iret hc rfl dX7_dipped_232 ⟨rfl, rfl, ⟨B, L, I, hR, hS.q hW1 hW2 hN0 hFr⟩, hF⟩
      have h118 : R cx 0 0 n σ 118 [some (.ref 42), some (.int (nI i0)), some (.int (nI i1)), some (.int (nI i2)), some (.int (nI j)), some (.int (nI i3)), some (.int (nI i4)), some (.int r6), some (.int (nI (if i4 = 0 then bsN P lim else 0))), some (.int (nI (dpF P lim).1)), some (.int (cI (dpF P lim).2)), some (.int (nI (4 + 3 * i0 + kk))), some (.int (nI lim)), none] [.int (nI lim), .int (nI lim)] := by
        refine R.icmpN_ge (tgt := 209) hc dX7_dipped_118 (by decide) (by omega) (by omega) (fun _ => fin) (fun z => absurd (Nat.le_refl _) z)
      refine R.iload (i := 12) hc rfl dX7_dipped_105 ?_
      refine R.iload (i := 6) hc rfl dX7_dipped_107 ?_
      refine R.ifN_ne (tgt := 116) hc dX7_dipped_109 (by decide) (by omega) (fun y => ?_) (fun y => ?_)
      · rw [if_neg y] at hlim
        refine R.bipush hc bp_61 dX7_dipped_116 ?_
        rw [hlim] at h118 ⊢
        exact h118
      · rw [if_pos y] at hlim
        refine R.iconst hc ic_5 dX7_dipped_112 ?_
        refine R.goto (tgt := 118) hc dX7_dipped_113 (by decide) ?_
        rw [hlim] at h118 ⊢
        exact h118
    · have hN : NowR (B 0) a np nq hr dr := hS.n.ag hW1 hW2 hN0
      have hWz : WF (a2 a kk i0 v) np nq := by
        rcases hkl.2.2.2 with y | y
        · rw [y]; exact WF_kind hW (by have := hkl.2.2.1 y; omega)
        · rw [y]; exact WF_dep hW (by omega)
      have hdv := hdp v
      have hPv : P v = agB it i1 j (fun k => hoursN (a2 a kk i0 v) np nq hr k 2 i0) i3 0 := by rw [hP]
      have h118 : R cx 0 0 n σ 118 [some (.ref 42), some (.int (nI i0)), some (.int (nI i1)), some (.int (nI i2)), some (.int (nI j)), some (.int (nI i3)), some (.int (nI i4)), some (.int r6), some (.int (nI (if i4 = 0 then bsN P v else 0))), some (.int (nI (dpF P v).1)), some (.int (cI (dpF P v).2)), some (.int (nI (4 + 3 * i0 + kk))), some (.int (nI v)), none] [.int (nI lim), .int (nI v)] := by
        refine R.icmpN_ge (tgt := 209) hc dX7_dipped_118 (by decide) (by omega) (by omega) (fun z => absurd z (by omega)) (fun _ => ?_)
        refine R.aload_n (j := 0) (i := 0) hc rfl rfl dX7_dipped_121 ?_
        refine R.get hc gf_X7_7_r dX7_dipped_122 (hR.1) rfl ?_
        refine R.iload (i := 11) hc rfl dX7_dipped_125 ?_
        refine R.iload (i := 12) hc rfl dX7_dipped_127 ?_
        refine R.iastG hc dX7_dipped_129 hR.g0 (by omega) (by decide) (fun σ hX hE => ?_)
        have hR := hR.w0 hX hE
        have hF := hF.tr (hE.wid (by omega))
        have hN : NowR (A2 B 0 (4 + 3 * i0 + kk) (nI v) 0) (a2 a kk i0 v) np nq hr dr := by rw [A2_s]; exact hN.wp hkl.1 (by omega)
        have hB : ∀ j, j < 49 → A2 B 0 (4 + 3 * i0 + kk) (nI v) 6 j = A 0 j := fun j hj => by rw [A2_n (by omega)]; exact hB j hj
        have hFr : ∀ k, k = 2 ∨ k = 5 ∨ 11 ≤ k → (A2 B 0 (4 + 3 * i0 + kk) (nI v)) k = A k := fun k hk => by rw [A2_n (by omega)]; exact hFr k hk
        refine R.aload_n (j := 0) (i := 0) hc rfl rfl dX7_dipped_130 ?_
        refine R.iload_n (j := 1) (i := 1) hc rfl rfl dX7_dipped_131 ?_
        refine R.bipush hc bp_24 dX7_dipped_132 ?_
        refine R.iload_n (j := 2) (i := 2) hc rfl rfl dX7_dipped_134 ?_
        first | refine R.imulN hc dX7_dipped_135 ?_ | refine R.imul hc dX7_dipped_135 ?_
        refine R.iload (i := 4) hc rfl dX7_dipped_136 ?_
        first | refine R.iaddN hc dX7_dipped_138 ?_ | refine R.iadd hc dX7_dipped_138 ?_
        refine R.iload (i := 5) hc rfl dX7_dipped_139 ?_
        refine R.cVi hc m_X7_isSo lk_X7_245 dX7_dipped_141 (c_X7_isSo l d X n hR hN hWz hh (by omega) (by omega) (by omega) hit) (hR.1) rfl rfl rfl (by omega) ⟨Nat.le_refl _, Nat.le_refl _⟩ (Nat.le_of_ble_eq_true rfl) (fun σ hX => ?_)
        obtain ⟨C, hR, hC0, hCk, hE⟩ := hX
        have hF := hF.tr hE
        have hN0 : ∀ j, j < 49 → C 0 j = A 0 j := fun j hj => (hC0 j hj).trans (hB j hj)
        have hB : ∀ j, j < 49 → C 6 j = A 0 j := fun j hj => by rw [hCk 6 (by omega)]; exact hB j hj
        have hFr : ∀ k, k = 2 ∨ k = 5 ∨ 11 ≤ k → C k = A k := fun k hk => (hCk k (by omega)).trans (hFr k hk)
        refine R.ist13 hc dX7_dipped_144 (by decide) rfl ?_
        rw [← hPv]
        rw [bsN, dpF] at ih
        obtain ⟨⟨f1, f2⟩, hff⟩ : ∃ z, z = dpF P v := ⟨_, rfl⟩
        rw [← hff] at ih hdv ⊢
        simp only at ih hdv ⊢
        obtain ⟨S, hSS⟩ : ∃ z, z = if i4 = 0 then bsN P v else 0 := ⟨_, rfl⟩
        rw [← hSS]
        refine R.iload (i := 8) hc rfl dX7_dipped_146 ?_
        refine R.iload (i := 13) hc rfl dX7_dipped_148 ?_
        refine R.ifB_eq (tgt := 165) hc dX7_dipped_150 (by decide) (fun u => ?_) (fun u => ?_)
        · simp only [u, Bool.false_eq_true, if_false, Nat.or_zero] at ih
          rw [← hSS] at ih
          refine R.iconst hc ic_0 dX7_dipped_165 ?_
          first | refine R.iorN hc dX7_dipped_166 ?_ | refine R.ior hc dX7_dipped_166 ?_
          refine R.ist8 hc dX7_dipped_167 (by decide) rfl ?_
          refine R.iload (i := 13) hc rfl dX7_dipped_169 ?_
          rw [Nat.or_zero]
          refine R.ifB_eq (tgt := 184) hc dX7_dipped_171 (by decide) (fun _ => ?_) (fun x => absurd (u.symm.trans x) (by decide))
          refine R.iload (i := 10) hc rfl dX7_dipped_184 ?_
          refine R.ist10 hc dX7_dipped_186 (by decide) rfl ?_
          refine R.iload (i := 9) hc rfl dX7_dipped_188 ?_
          refine R.iload (i := 13) hc rfl dX7_dipped_190 ?_
          refine R.ifB_eq (tgt := 199) hc dX7_dipped_192 (by decide) (fun _ => ?_) (fun x => absurd (u.symm.trans x) (by decide))
          refine R.iconst hc ic_0 dX7_dipped_199 ?_
          first | refine R.iaddN hc dX7_dipped_200 ?_ | refine R.iadd hc dX7_dipped_200 ?_
          refine R.ist9 hc dX7_dipped_201 (by decide) rfl ?_
          refine R.iinc12 hc dX7_dipped_203 (iiN1 _) (by decide) rfl ?_
          refine R.goto (tgt := 105) hc dX7_dipped_206 (by decide) ?_
          exact R.fg13 (ih σ C hR hN0 hB hFr hF)
        · rw [u, if_pos rfl, if_pos rfl] at ih
          have b : ∀ S', S' = (if i4 = 0 then bsN P v ||| 2 ^ v else 0) → R cx 0 0 n σ 169 [some (.ref 42), some (.int (nI i0)), some (.int (nI i1)), some (.int (nI i2)), some (.int (nI j)), some (.int (nI i3)), some (.int (nI i4)), some (.int r6), some (.int (nI S')), some (.int (nI f1)), some (.int (cI f2)), some (.int (nI (4 + 3 * i0 + kk))), some (.int (nI v)), some (.int (b2 (P v)))] [] := by
            intro S' hS'
            subst hS'
            refine R.iload (i := 13) hc rfl dX7_dipped_169 ?_
            refine R.ifB_eq (tgt := 184) hc dX7_dipped_171 (by decide) (fun x => absurd (u.symm.trans x) (by decide)) (fun _ => ?_)
            refine R.iload (i := 9) hc rfl dX7_dipped_174 ?_
            refine R.ifN_ne (tgt := 184) hc dX7_dipped_176 (by decide) (by omega) (fun x => ?_) (fun x => ?_)
            · rw [if_neg x] at ih
              refine R.iload (i := 10) hc rfl dX7_dipped_184 ?_
              refine R.ist10 hc dX7_dipped_186 (by decide) rfl ?_
              refine R.iload (i := 9) hc rfl dX7_dipped_188 ?_
              refine R.iload (i := 13) hc rfl dX7_dipped_190 ?_
              refine R.ifB_eq (tgt := 199) hc dX7_dipped_192 (by decide) (fun x => absurd (u.symm.trans x) (by decide)) (fun _ => ?_)
              refine R.iconst hc ic_1 dX7_dipped_195 ?_
              refine R.goto (tgt := 200) hc dX7_dipped_196 (by decide) ?_
              first | refine R.iaddN hc dX7_dipped_200 ?_ | refine R.iadd hc dX7_dipped_200 ?_
              refine R.ist9 hc dX7_dipped_201 (by decide) rfl ?_
              refine R.iinc12 hc dX7_dipped_203 (iiN1 _) (by decide) rfl ?_
              refine R.goto (tgt := 105) hc dX7_dipped_206 (by decide) ?_
              exact R.fg13 (ih σ C hR hN0 hB hFr hF)
            · rw [if_pos x] at ih
              simp only [cI] at ih
              refine R.iload (i := 12) hc rfl dX7_dipped_179 ?_
              refine R.goto (tgt := 186) hc dX7_dipped_181 (by decide) ?_
              refine R.ist10 hc dX7_dipped_186 (by decide) rfl ?_
              refine R.iload (i := 9) hc rfl dX7_dipped_188 ?_
              refine R.iload (i := 13) hc rfl dX7_dipped_190 ?_
              refine R.ifB_eq (tgt := 199) hc dX7_dipped_192 (by decide) (fun x => absurd (u.symm.trans x) (by decide)) (fun _ => ?_)
              refine R.iconst hc ic_1 dX7_dipped_195 ?_
              refine R.goto (tgt := 200) hc dX7_dipped_196 (by decide) ?_
              first | refine R.iaddN hc dX7_dipped_200 ?_ | refine R.iadd hc dX7_dipped_200 ?_
              refine R.ist9 hc dX7_dipped_201 (by decide) rfl ?_
              refine R.iinc12 hc dX7_dipped_203 (iiN1 _) (by decide) rfl ?_
              refine R.goto (tgt := 105) hc dX7_dipped_206 (by decide) ?_
              exact R.fg13 (ih σ C hR hN0 hB hFr hF)
          refine R.iload (i := 6) hc rfl dX7_dipped_153 ?_
          refine R.ifN_ne (tgt := 165) hc dX7_dipped_155 (by decide) (by omega) (fun y => ?_) (fun y => ?_)
          · rw [if_neg y] at hSS
            refine R.iconst hc ic_0 dX7_dipped_165 ?_
            first | refine R.iorN hc dX7_dipped_166 ?_ | refine R.ior hc dX7_dipped_166 ?_
            refine R.ist8 hc dX7_dipped_167 (by decide) rfl ?_
            rw [Nat.or_zero]
            exact b S (by rw [if_neg y]; exact hSS)
          · rw [if_pos y] at hSS hkk
            have := hkl.2.2.1 hkk
            refine R.iconst hc ic_1 dX7_dipped_158 ?_
            refine R.iload (i := 12) hc rfl dX7_dipped_159 ?_
            first | refine R.shl1N hc (by omega) dX7_dipped_161 ?_ | refine R.ishl hc dX7_dipped_161 ?_
            refine R.goto (tgt := 166) hc dX7_dipped_162 (by decide) ?_
            first | refine R.iorN hc dX7_dipped_166 ?_ | refine R.ior hc dX7_dipped_166 ?_
            refine R.ist8 hc dX7_dipped_167 (by decide) rfl ?_
            exact b _ (by rw [if_pos y, hSS])
      refine R.iload (i := 12) hc rfl dX7_dipped_105 ?_
      refine R.iload (i := 6) hc rfl dX7_dipped_107 ?_
      refine R.ifN_ne (tgt := 116) hc dX7_dipped_109 (by decide) (by omega) (fun y => ?_) (fun y => ?_)
      · rw [if_neg y] at hlim
        refine R.bipush hc bp_61 dX7_dipped_116 ?_
        rw [hlim] at h118
        exact h118
      · rw [if_pos y] at hlim
        refine R.iconst hc ic_5 dX7_dipped_112 ?_
        refine R.goto (tgt := 118) hc dX7_dipped_113 (by decide) ?_
        rw [hlim] at h118
        exact h118
  have st : ∀ (σ : Wd) (B : Nat → Nat → Int32), RW σ B L I → (∀ j, j < 49 → B 0 j = A 0 j) → (∀ j, j < 49 → B 6 j = A 0 j) → (∀ k, k = 2 ∨ k = 5 ∨ 11 ≤ k → B k = A k) → Eqo 42 17 σ0 σ → R cx 0 0 n σ 105 [some (.ref 42), some (.int (nI i0)), some (.int (nI i1)), some (.int (nI i2)), some (.int (nI j)), some (.int (nI i3)), some (.int (nI i4)), some (.int r6), some (.int (nI 0)), some (.int (nI 0)), some (.int (-4)), some (.int (nI (4 + 3 * i0 + kk))), some (.int (nI 0)), none] [] := by
    intro σ B h1 h2 h3 h4 h5
    have h0 := lp 0 (Nat.zero_le _) σ B h1 h2 h3 h4 h5
    rw [bsN, dpF] at h0
    simp only [ite_self] at h0
    exact h0
  refine R.iconst hc ic_0 dX7_dipped_70 ?_
  refine R.ist8 hc dX7_dipped_71 (by decide) rfl ?_
  refine R.iconst hc ic_0 dX7_dipped_73 ?_
  refine R.ist9 hc dX7_dipped_74 (by decide) rfl ?_
  refine R.bipush hc bp_m4 dX7_dipped_76 ?_
  refine R.ist10 hc dX7_dipped_78 (by decide) rfl ?_
  refine R.iconst hc ic_4 dX7_dipped_80 ?_
  refine R.iconst hc ic_3 dX7_dipped_81 ?_
  refine R.iload_n (j := 1) (i := 1) hc rfl rfl dX7_dipped_82 ?_
  first | refine R.imulN hc dX7_dipped_83 ?_ | refine R.imul hc dX7_dipped_83 ?_
  first | refine R.iaddN hc dX7_dipped_84 ?_ | refine R.iadd hc dX7_dipped_84 ?_
  refine R.iload (i := 6) hc rfl dX7_dipped_85 ?_
  refine R.ifN_ne (tgt := 94) hc dX7_dipped_87 (by decide) (by omega) (fun y => ?_) (fun y => ?_)
  · rw [if_neg y] at hkk
    rw [hkk] at st
    refine R.iconst hc ic_2 dX7_dipped_94 ?_
    first | refine R.iaddN hc dX7_dipped_95 ?_ | refine R.iadd hc dX7_dipped_95 ?_
    refine R.ist11 hc dX7_dipped_96 (by decide) rfl ?_
    refine R.aload_n (j := 0) (i := 0) hc rfl rfl dX7_dipped_98 ?_
    refine R.cVu hc m_X7_asides lk_X7_204 dX7_dipped_99 (c_X7_asides l (d + 6) X n hR) (hR.1) rfl rfl rfl (by omega) ⟨Nat.le_refl _, Nat.le_refl _⟩ (Nat.le_of_ble_eq_true rfl) (fun σ hX => ?_)
    obtain ⟨B, hR, hB, hBk, hE⟩ := hX
    have hF := hF.tr hE
    have hFr : ∀ k, k = 2 ∨ k = 5 ∨ 11 ≤ k → B k = A k := fun k hk => hBk k (by omega)
    have hN : NowR (B 0) a np nq hr dr := by rw [hBk 0 (by omega)]; exact hN
    refine R.iconst hc ic_0 dX7_dipped_102 ?_
    refine R.ist12 hc dX7_dipped_103 (by decide) rfl ?_
    exact st σ B hR (fun j _ => by rw [hBk 0 (by omega)]) hB hFr hF
  · rw [if_pos y] at hkk
    rw [hkk] at st
    refine R.iconst hc ic_0 dX7_dipped_90 ?_
    refine R.goto (tgt := 95) hc dX7_dipped_91 (by decide) ?_
    first | refine R.iaddN hc dX7_dipped_95 ?_ | refine R.iadd hc dX7_dipped_95 ?_
    refine R.ist11 hc dX7_dipped_96 (by decide) rfl ?_
    refine R.aload_n (j := 0) (i := 0) hc rfl rfl dX7_dipped_98 ?_
    refine R.cVu hc m_X7_asides lk_X7_204 dX7_dipped_99 (c_X7_asides l (d + 6) X n hR) (hR.1) rfl rfl rfl (by omega) ⟨Nat.le_refl _, Nat.le_refl _⟩ (Nat.le_of_ble_eq_true rfl) (fun σ hX => ?_)
    obtain ⟨B, hR, hB, hBk, hE⟩ := hX
    have hF := hF.tr hE
    have hFr : ∀ k, k = 2 ∨ k = 5 ∨ 11 ≤ k → B k = A k := fun k hk => hBk k (by omega)
    have hN : NowR (B 0) a np nq hr dr := by rw [hBk 0 (by omega)]; exact hN
    refine R.iconst hc ic_0 dX7_dipped_102 ?_
    refine R.ist12 hc dX7_dipped_103 (by decide) rfl ?_
    exact st σ B hR (fun j _ => by rw [hBk 0 (by omega)]) hB hFr hF
