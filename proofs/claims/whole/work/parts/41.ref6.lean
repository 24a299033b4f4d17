theorem tb1 {W q : Nat} : W / 2 ^ q &&& 1 = 1 ↔ W.testBit q = true := by
  have h := tbz (W := W) (q := q)
  have h2 : W / 2 ^ q &&& 1 ≤ 1 := Nat.and_le_right
  constructor
  · intro y
    cases z : W.testBit q
    · have := h.mpr z; omega
    · rfl
  · intro y
    rcases Nat.eq_zero_or_pos (W / 2 ^ q &&& 1) with z | z
    · rw [h.mp z] at y; exact absurd y (by decide)
    · omega
theorem cnt_7 (g : Nat → Nat) : cnt g ≤ 7 := Nat.le_trans (cnt_le (h := fun _ => 1) (fun _ _ _ => by decide)) (by decide)
theorem IsMax.le7 {G : Nat → Nat} {k S m : Nat} (h : IsMax G k S m) : m ≤ 7 := by
  obtain ⟨⟨g, _, h2⟩, _⟩ := h
  rw [← h2]; exact cnt_7 g
theorem xor_dn : ∀ c, c < 128 → ∀ p, p < 7 → c.testBit p = true → c ^^^ 2 ^ p < c := by decide +kernel
theorem lnI_dec2 : ∀ h, h < 200 → nI h + Int32.ofInt (-1) = lnI h := by decide +kernel
theorem fitG_lt2 {a : SA} {np nq x : Nat} (h7 : np ≤ 7) : fitG a np nq x < 128 := fitG_lt h7
set_option maxHeartbeats 4000000 in
set_option maxRecDepth 100000 in
theorem c_X7_match (l : Launch) (d : Nat) (X : Nat × (Nat → Int32)) (n : Nat) {σ : Wd} {a : SA} {np nq hr dr : Nat} {hs : List SN} {im : IM} {tp : Nat → Nat} {tl : Nat} {ln sz : Nat → Nat} {it : Nat → Nat → Int64} (hC : RA σ a np nq hr dr hs im tp tl ln sz it) (hI : WI a np nq hr dr hs im tp tl ln sz) : CN l yX7_match cX7_match 8 (some .int) ((d + 5)) X n [.ref 42] σ (fun r σ' => r = some (.int (nI (matchN (fitG a np nq) nq))) ∧ (RA σ' a np nq hr dr hs im tp tl ln sz it ∧ Eqo 42 17 σ σ')) := by
  refine CN.of (by decide) [some (.ref 42), none, none, none, none, none, none, none] (fun _ => Nat.le_of_ble_eq_true rfl) (fun _ => rfl) (fun cx hc => ?_)
  obtain ⟨A, L, I, hR, hS⟩ := hC
  obtain ⟨hW, hh, hdr, hwh, hwi, hU, hV⟩ := hI
  have hN := hS.n
  have hW1 := hW.1
  have hW2 := hW.2.1
  have hF : Eqo 42 17 σ σ := Eqo.rf
  obtain ⟨σ0, hσ0⟩ : ∃ z, z = σ := ⟨_, rfl⟩
  rw [← hσ0] at hc
  have hF : Eqo 42 17 σ0 σ := by rw [hσ0]; exact Eqo.rf
  refine R.iconst hc ic_0 dX7_match_0 ?_
  refine R.istn1 hc dX7_match_1 (by decide) rfl ?_
  refine rl_down (P := fun p => ∀ (σ : Wd) (B : Nat → Nat → Int32), RW σ B L I → (∀ T, T < p → B 7 T = nI 0) → (∀ k, k ≠ 7 → B k = A k) → Eqo 42 17 σ0 σ → R cx 0 0 n σ 2 [some (.ref 42), some (.int (nI p)), none, none, none, none, none, none] []) 128 (fun σ B hR hT hFr hF => ?_) (fun p hp ih σ B hR hT hFr hF => ?_) 0 (Nat.zero_le _) σ A hR (fun j hj => absurd hj (by omega)) (fun _ _ => rfl) hF
  rotate_left
  · refine R.iload_n (j := 1) (i := 1) hc rfl rfl dX7_match_2 ?_
    refine R.sipush hc sp_128 dX7_match_3 ?_
    refine R.icmpN_ge (tgt := 22) hc dX7_match_6 (by decide) (by omega) (by omega) (fun z => absurd z (by omega)) (fun _ => ?_)
    refine R.aload_n (j := 0) (i := 0) hc rfl rfl dX7_match_9 ?_
    refine R.get hc gf_X7_31_r dX7_match_10 (hR.1) rfl ?_
    refine R.iload_n (j := 1) (i := 1) hc rfl rfl dX7_match_13 ?_
    refine R.iconst hc ic_0 dX7_match_14 ?_
    refine R.iastG hc dX7_match_15 hR.g7 (by omega) (by decide) (fun σ hX hE => ?_)
    have hR := hR.w7 hX hE
    have hF := hF.tr (hE.wid (by omega))
    refine R.iinc1 hc dX7_match_16 (iiN1 _) (by decide) rfl ?_
    refine R.goto (tgt := 2) hc dX7_match_19 (by decide) ?_
    exact ih σ _ hR (fun T hT9 => by
      rw [A2_s]
      by_cases e : T = p
      · rw [e, pk_us]
      · rw [pk_un e]; exact hT T (by omega)) (fun k hk => by rw [A2_n hk]; exact hFr k hk) hF
  refine R.iload_n (j := 1) (i := 1) hc rfl rfl dX7_match_2 ?_
  refine R.sipush hc sp_128 dX7_match_3 ?_
  refine R.icmpN_ge (tgt := 22) hc dX7_match_6 (by decide) (by omega) (by omega) (fun _ => ?_) (fun z => absurd (Nat.le_refl _) z)
  refine R.iconst hc ic_0 dX7_match_22 ?_
  refine R.istn1 hc dX7_match_23 (by decide) rfl ?_
  refine rl_down (P := fun q => ∀ (σ : Wd) (B : Nat → Nat → Int32) (h : Nat → Nat), RW σ B L I → (∀ T, T < 128 → IsMax (fitG a np nq) q T (h T) ∧ B 7 T = nI (h T)) → (∀ k, k ≠ 7 → B k = A k) → Eqo 42 17 σ0 σ → R cx 0 0 n σ 24 [some (.ref 42), some (.int (nI q)), none, none, none, none, none, none] []) nq (fun σ B h hR hT hFr hF => ?_) (fun q hq ih σ B h hR hT hFr hF => ?_) 0 (Nat.zero_le _) σ B (fun _ => 0) hR (fun T hT9 => ⟨IsMax_0 _ _, hT T hT9⟩) hFr hF
  · have hN : NowR (B 0) a np nq hr dr := by rw [hFr 0 (by omega)]; exact hN
    refine R.iload_n (j := 1) (i := 1) hc rfl rfl dX7_match_24 ?_
    refine R.aload_n (j := 0) (i := 0) hc rfl rfl dX7_match_25 ?_
    refine R.get hc gf_X7_7_r dX7_match_26 (hR.1) rfl ?_
    refine R.iconst hc ic_1 dX7_match_29 ?_
    refine R.ialdV hc hR.g0 (by omega) (by decide) dX7_match_30 (hN.2.1) ?_
    refine R.icmpN_ge (tgt := 164) hc dX7_match_31 (by decide) (by omega) (by omega) (fun _ => ?_) (fun z => absurd (Nat.le_refl _) z)
    refine R.aload_n (j := 0) (i := 0) hc rfl rfl dX7_match_164 ?_
    refine R.get hc gf_X7_31_r dX7_match_165 (hR.1) rfl ?_
    refine R.bipush hc bp_127 dX7_match_168 ?_
    refine R.ialdV hc hR.g7 (by omega) (by decide) dX7_match_170 (hT 127 (by omega)).2 ?_
    exact R.iret hc rfl dX7_match_171 ⟨rfl, by rw [matchN_eq (hT 127 (by omega)).1], ⟨B, L, I, hR, hS.q hW1 hW2 (fun j _ => by rw [hFr 0 (by omega)]) (fun k hk => hFr k (by omega))⟩, hF⟩
  · have hN : NowR (B 0) a np nq hr dr := by rw [hFr 0 (by omega)]; exact hN
    have g6 := (hW.2.2.2.1 q hq).2.2.2
    have hGl := fitG_lt2 (a := a) (nq := nq) (x := q) hW1
    obtain ⟨F, hFq⟩ : ∃ z, z = (fitG a np nq) q := ⟨_, rfl⟩
    rw [← hFq] at hGl
    have go : R cx 0 0 n σ 53 [some (.ref 42), some (.int (nI q)), none, none, none, none, none, none] [.int (nI F)] := by
      refine R.istn2 hc dX7_match_53 (by decide) rfl ?_
      refine R.bipush hc bp_127 dX7_match_54 ?_
      refine R.istn3 hc dX7_match_56 (by decide) rfl ?_
      have key : ∀ (c : Nat) (σ : Wd) (B : Nat → Nat → Int32) (h1 : Nat → Nat), c ≤ 128 → RW σ B L I → (∀ T, c ≤ T → T < 128 → IsMax (fitG a np nq) (q + 1) T (h1 T) ∧ B 7 T = nI (h1 T)) → (∀ T, T < c → B 7 T = nI (h T)) → (∀ k, k ≠ 7 → B k = A k) → Eqo 42 17 σ0 σ → R cx 0 0 n σ 57 [some (.ref 42), some (.int (nI q)), some (.int (nI F)), some (.int (lnI c)), none, none, none, none] [] := by
        intro c
        induction c with
        | zero =>
          intro σ B h1 hc9 hR hT1 hT0 hFr hF
          refine R.iload_n (j := 3) (i := 3) hc rfl rfl dX7_match_57 ?_
          refine R.if_lt (tgt := 158) hc dX7_match_58 (by decide) (fun _ => ?_) (fun z => absurd (by decide) z)
          refine R.iinc1 hc dX7_match_158 (iiN1 _) (by decide) rfl ?_
          refine R.goto (tgt := 24) hc dX7_match_161 (by decide) ?_
          exact R.fg3 (R.fg2 (ih σ B h1 hR (fun T hT9 => hT1 T (by omega) hT9) hFr hF))
        | succ c ihc =>
          intro σ B h1 hc9 hR hT1 hT0 hFr hF
          simp only [lnI]
          refine R.iload_n (j := 3) (i := 3) hc rfl rfl dX7_match_57 ?_
          refine R.ifN_lt (tgt := 158) hc dX7_match_58 (by decide) (by omega) ?_
          refine R.aload_n (j := 0) (i := 0) hc rfl rfl dX7_match_61 ?_
          refine R.get hc gf_X7_31_r dX7_match_62 (hR.1) rfl ?_
          refine R.iload_n (j := 3) (i := 3) hc rfl rfl dX7_match_65 ?_
          refine R.ialdV hc hR.g7 (by omega) (by decide) dX7_match_66 (hT0 c (by omega)) ?_
          refine R.ist4 hc dX7_match_67 (by decide) rfl ?_
          refine R.iconst hc ic_0 dX7_match_69 ?_
          refine R.ist5 hc dX7_match_70 (by decide) rfl ?_
          refine rl_down (P := fun p => ∀ m, h c ≤ m → m ≤ 8 → (∀ p1, p1 < p → c.testBit p1 = true → F.testBit p1 = true → h (c ^^^ 2 ^ p1) + 1 ≤ m) → (m = h c ∨ ∃ p1, p1 < p ∧ c.testBit p1 = true ∧ F.testBit p1 = true ∧ m = h (c ^^^ 2 ^ p1) + 1) → R cx 0 0 n σ 72 [some (.ref 42), some (.int (nI q)), some (.int (nI F)), some (.int (nI c)), some (.int (nI m)), some (.int (nI p)), none, none] []) 7 (fun m m1 m2 m3 m4 => ?_) (fun p hp ihp m m1 m2 m3 m4 => ?_) 0 (Nat.zero_le _) (h c) (Nat.le_refl _) (by have := (hT c (by omega)).1.le7; omega) (fun p1 hp1 => absurd hp1 (by omega)) (Or.inl rfl)
          · have hmx : IsMax (fitG a np nq) (q + 1) c m := max_row h (fun S hS => (hT S hS).1) (by omega) m1 (by rw [← hFq]; exact m3) (by rw [← hFq]; exact m4)
            refine R.iload (i := 5) hc rfl dX7_match_72 ?_
            refine R.bipush hc bp_7 dX7_match_74 ?_
            refine R.icmpN_ge (tgt := 144) hc dX7_match_76 (by decide) (by omega) (by omega) (fun _ => ?_) (fun z => absurd (Nat.le_refl _) z)
            refine R.aload_n (j := 0) (i := 0) hc rfl rfl dX7_match_144 ?_
            refine R.get hc gf_X7_31_r dX7_match_145 (hR.1) rfl ?_
            refine R.iload_n (j := 3) (i := 3) hc rfl rfl dX7_match_148 ?_
            refine R.iload (i := 4) hc rfl dX7_match_149 ?_
            refine R.iastG hc dX7_match_151 hR.g7 (by omega) (by decide) (fun σ hX hE => ?_)
            have hR := hR.w7 hX hE
            have hF := hF.tr (hE.wid (by omega))
            refine R.iinc3 hc dX7_match_152 (lnI_dec2 c (by omega)) (by decide) rfl ?_
            refine R.goto (tgt := 57) hc dX7_match_155 (by decide) ?_
            refine R.fg5 (R.fg4 (ihc σ _ (un h1 c m) (by omega) hR (fun T h2 h3 => ?_) (fun T h2 => by rw [A2_s, pk_un (by omega)]; exact hT0 T (by omega)) (fun k hk => by rw [A2_n hk]; exact hFr k hk) hF))
            rw [A2_s, un]
            by_cases e : T = c
            · rw [e, pk_us, if_pos rfl]; exact ⟨hmx, rfl⟩
            · rw [pk_un e, if_neg e]; exact hT1 T (by omega) h3
          · have nokeep : ∀ m', m' = m → (∀ p1, p1 < p + 1 → c.testBit p1 = true → F.testBit p1 = true → h (c ^^^ 2 ^ p1) + 1 ≤ m) → R cx 0 0 n σ 134 [some (.ref 42), some (.int (nI q)), some (.int (nI F)), some (.int (nI c)), some (.int (nI m)), some (.int (nI p)), none, none] [] := by
              intro m' _ hall
              refine R.iload (i := 4) hc rfl dX7_match_134 ?_
              refine R.ist4 hc dX7_match_136 (by decide) rfl ?_
              refine R.iinc5 hc dX7_match_138 (iiN1 _) (by decide) rfl ?_
              refine R.goto (tgt := 72) hc dX7_match_141 (by decide) ?_
              exact ihp m m1 m2 hall (m4.imp id (fun ⟨p1, h1, h2⟩ => ⟨p1, by omega, h2⟩))
            refine R.iload (i := 5) hc rfl dX7_match_72 ?_
            refine R.bipush hc bp_7 dX7_match_74 ?_
            refine R.icmpN_ge (tgt := 144) hc dX7_match_76 (by decide) (by omega) (by omega) (fun z => absurd z (by omega)) (fun _ => ?_)
            have hcF : c &&& F < 128 := Nat.lt_of_le_of_lt Nat.and_le_left (by omega)
            have hx1 : (c &&& F) / 2 ^ p &&& 1 < 2 ^ 31 := Nat.lt_of_le_of_lt Nat.and_le_right (by decide)
            refine R.iload_n (j := 3) (i := 3) hc rfl rfl dX7_match_79 ?_
            refine R.iload_n (j := 2) (i := 2) hc rfl rfl dX7_match_80 ?_
            first | refine R.iandN hc dX7_match_81 ?_ | refine R.iand hc dX7_match_81 ?_
            refine R.iload (i := 5) hc rfl dX7_match_82 ?_
            first | refine R.ishrN hc (by omega) (by omega) dX7_match_84 ?_ | refine R.ishr hc dX7_match_84 ?_
            refine R.iconst hc ic_1 dX7_match_85 ?_
            first | refine R.iandN hc dX7_match_86 ?_ | refine R.iand hc dX7_match_86 ?_
            refine R.iconst hc ic_1 dX7_match_87 ?_
            refine R.icmpN_ne (tgt := 95) hc dX7_match_88 (by decide) hx1 (by omega) (fun z => ?_) (fun z => ?_)
            · have z : ¬ (c.testBit p = true ∧ F.testBit p = true) := fun y => z (tb1.mpr (by rw [Nat.testBit_and, y.1, y.2]; rfl))
              refine R.iconst hc ic_0 dX7_match_95 ?_
              refine R.ist6 hc dX7_match_96 (by decide) rfl ?_
              refine R.iload (i := 6) hc rfl dX7_match_98 ?_
              refine R.ifN_eq (tgt := 119) hc dX7_match_100 (by decide) (by omega) (fun _ => ?_) (fun y => absurd rfl y)
              refine R.iconst hc ic_0 dX7_match_119 ?_
              refine R.ist7 hc dX7_match_120 (by decide) rfl ?_
              refine R.iload (i := 7) hc rfl dX7_match_122 ?_
              refine R.iload (i := 4) hc rfl dX7_match_124 ?_
              refine R.icmpN_le (tgt := 134) hc dX7_match_126 (by decide) (by omega) (by omega) (fun _ => ?_) (fun y => absurd (Nat.zero_le _) y)
              refine R.fg7 (R.fg6 (nokeep m rfl (fun p1 h1 h2 h3 => ?_)))
              rcases Nat.lt_or_ge p1 p with y | y
              · exact m3 p1 y h2 h3
              · exact absurd ⟨by rw [show p = p1 by omega]; exact h2, by rw [show p = p1 by omega]; exact h3⟩ z
            · have z := tb1.mp z
              rw [Nat.testBit_and, Bool.and_eq_true] at z
              have hxd := xor_dn c (by omega) p hp z.1
              have h7b := (hT (c ^^^ 2 ^ p) (by omega)).1.le7
              refine R.iconst hc ic_1 dX7_match_91 ?_
              refine R.goto (tgt := 96) hc dX7_match_92 (by decide) ?_
              refine R.ist6 hc dX7_match_96 (by decide) rfl ?_
              refine R.iload (i := 6) hc rfl dX7_match_98 ?_
              refine R.ifN_eq (tgt := 119) hc dX7_match_100 (by decide) (by omega) (fun y => absurd y (by omega)) (fun _ => ?_)
              refine R.aload_n (j := 0) (i := 0) hc rfl rfl dX7_match_103 ?_
              refine R.get hc gf_X7_31_r dX7_match_104 (hR.1) rfl ?_
              refine R.iload_n (j := 3) (i := 3) hc rfl rfl dX7_match_107 ?_
              refine R.iconst hc ic_1 dX7_match_108 ?_
              refine R.iload (i := 5) hc rfl dX7_match_109 ?_
              first | refine R.shl1N hc (by omega) dX7_match_111 ?_ | refine R.ishl hc dX7_match_111 ?_
              first | refine R.ixorN hc dX7_match_112 ?_ | refine R.ixor hc dX7_match_112 ?_
              refine R.ialdV hc hR.g7 (by omega) (by decide) dX7_match_113 (hT0 (c ^^^ 2 ^ p) (by omega)) ?_
              refine R.iconst hc ic_1 dX7_match_114 ?_
              first | refine R.iaddN hc dX7_match_115 ?_ | refine R.iadd hc dX7_match_115 ?_
              refine R.goto (tgt := 120) hc dX7_match_116 (by decide) ?_
              refine R.ist7 hc dX7_match_120 (by decide) rfl ?_
              refine R.iload (i := 7) hc rfl dX7_match_122 ?_
              refine R.iload (i := 4) hc rfl dX7_match_124 ?_
              refine R.icmpN_le (tgt := 134) hc dX7_match_126 (by decide) (by omega) (by omega) (fun y => ?_) (fun y => ?_)
              · refine R.fg7 (R.fg6 (nokeep m rfl (fun p1 h1 h2 h3 => ?_)))
                rcases Nat.lt_or_ge p1 p with u | u
                · exact m3 p1 u h2 h3
                · rw [show p1 = p by omega]; exact y
              · refine R.iload (i := 7) hc rfl dX7_match_129 ?_
                refine R.goto (tgt := 136) hc dX7_match_131 (by decide) ?_
                refine R.ist4 hc dX7_match_136 (by decide) rfl ?_
                refine R.iinc5 hc dX7_match_138 (iiN1 _) (by decide) rfl ?_
                refine R.goto (tgt := 72) hc dX7_match_141 (by decide) ?_
                refine R.fg7 (R.fg6 (ihp _ (by omega) (by omega) (fun p1 h1 h2 h3 => ?_) (Or.inr ⟨p, by omega, z.1, z.2, rfl⟩)))
                rcases Nat.lt_or_ge p1 p with u | u
                · have := m3 p1 u h2 h3; omega
                · rw [show p1 = p by omega]; exact Nat.le_refl _
      exact key 128 σ B h (Nat.le_refl _) hR (fun T h1 h2 => absurd h2 (by omega)) (fun T h1 => (hT T h1).2) hFr hF
    refine R.iload_n (j := 1) (i := 1) hc rfl rfl dX7_match_24 ?_
    refine R.aload_n (j := 0) (i := 0) hc rfl rfl dX7_match_25 ?_
    refine R.get hc gf_X7_7_r dX7_match_26 (hR.1) rfl ?_
    refine R.iconst hc ic_1 dX7_match_29 ?_
    refine R.ialdV hc hR.g0 (by omega) (by decide) dX7_match_30 (hN.2.1) ?_
    refine R.icmpN_ge (tgt := 164) hc dX7_match_31 (by decide) (by omega) (by omega) (fun z => absurd z (by omega)) (fun _ => ?_)
    refine R.aload_n (j := 0) (i := 0) hc rfl rfl dX7_match_34 ?_
    refine R.iload_n (j := 1) (i := 1) hc rfl rfl dX7_match_35 ?_
    refine R.cVr hc m_X7_claimed lk_X7_70 dX7_match_36 (n_X7_claimed l (d + 3) X n hR hN hW (by omega)) (hR.1) rfl rfl rfl (by omega) ⟨Nat.le_refl _, Nat.le_refl _⟩ (Nat.le_of_ble_eq_true rfl) ?_
    refine R.bipush hc bp_m4 dX7_match_39 ?_
    refine R.icmp_ne (tgt := 52) hc dX7_match_41 (by decide) (fun z => ?_) (fun z => ?_)
    · rw [fitG, if_neg (fun y => z ((cI_n4 (by omega)).mpr y))] at hFq
      rw [hFq] at go
      refine R.iconst hc ic_0 dX7_match_52 ?_
      exact go
    · rw [fitG, if_pos ((cI_n4 (by omega)).mp z)] at hFq
      rw [hFq] at go
      refine R.aload_n (j := 0) (i := 0) hc rfl rfl dX7_match_44 ?_
      refine R.iload_n (j := 1) (i := 1) hc rfl rfl dX7_match_45 ?_
      refine R.cVr hc m_X7_fitsFor lk_X7_132 dX7_match_46 (c_X7_fitsFor l d X n hR hN hW (by omega)) (hR.1) rfl rfl rfl (by omega) ⟨Nat.le_refl _, Nat.le_refl _⟩ (Nat.le_of_ble_eq_true rfl) ?_
      refine R.goto (tgt := 53) hc dX7_match_49 (by decide) ?_
      exact go
