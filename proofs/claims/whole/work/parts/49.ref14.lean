theorem pudP_len (tp : Nat → Nat) (tl : Nat) : ∀ j a k i q, pudP tp tl j a k i = .inr q → (0 < k + j → 0 < q.2.1) ∧ q.2.1 ≤ k + j := by
  intro j
  induction j with
  | zero => intro a k i q h; rw [pudP] at h; cases h; exact ⟨fun h => by simpa using h, by simp⟩
  | succ j ih =>
    intro a k i q h
    rw [pudP] at h
    split at h
    · rename_i hn; cases h; exact ⟨fun _ => hn.1, by show k ≤ _; omega⟩
    · split at h
      · cases h
      · split at h
        · cases h
        · split at h
          · cases h
          · have := ih _ _ _ _ h
            exact ⟨fun _ => this.1 (by omega), by omega⟩
theorem peoP_len (tp : Nat → Nat) (tl : Nat) : ∀ j a k i q, peoP tp tl j a k i = .inr q → q.2.1 ≤ k + j := by
  intro j
  induction j with
  | zero => intro a k i q h; rw [peoP] at h; cases h; simp
  | succ j ih =>
    intro a k i q h
    rw [peoP] at h
    split at h
    · cases h; show k ≤ _; omega
    · split at h
      · cases h
      · split at h
        · cases h
        · split at h
          · cases h
          · have := ih _ _ _ _ h
            omega
theorem chr_z {tp : Nat → Nat} {tl i : Nat} (hU : WT tp tl) : chr tp tl i = 0 ↔ ¬ i < tl := by
  unfold chr
  split
  · rename_i h; have := (hU.2 i h).1; omega
  · rename_i h; exact ⟨fun _ => h, fun _ => rfl⟩
set_option maxHeartbeats 4000000 in
set_option maxRecDepth 100000 in
theorem c_X7_read (l : Launch) (d : Nat) (X : Nat × (Nat → Int32)) (n : Nat) {σ : Wd} {a : SA} {np nq hr dr : Nat} {hs : List SN} {im : IM} {tp : Nat → Nat} {tl : Nat} {ln sz : Nat → Nat} {it : Nat → Nat → Int64} (hC : RA σ a np nq hr dr hs im tp tl ln sz it) (hI : WI a np nq hr dr hs im tp tl ln sz) : CN l yX7_read cX7_read 4 (some .int) ((d + 4)) X n [.ref 42] σ (fun v σ' => v = some (.int (s_read tp tl)) ∧ ((match readP tp tl with | .inl _ => RA σ' a np nq hr dr hs im tp 0 ln sz it | .inr q => RA σ' q.1 q.2.1 q.2.2 0 dr [] im tp 0 ln sz it) ∧ Eqo 42 17 σ σ')) := by
  refine CN.of (by decide) [some (.ref 42), none, none, none] (fun _ => Nat.le_of_ble_eq_true rfl) (fun _ => rfl) (fun cx hc => ?_)
  obtain ⟨A, L, I, hR, hS⟩ := hC
  obtain ⟨hW, hh, hdr, hwh, hwi, hU, hV⟩ := hI
  have hN := hS.n
  have hW1 := hW.1
  have hW2 := hW.2.1
  have hF : Eqo 42 17 σ σ := Eqo.rf
  obtain ⟨σ0, hσ0⟩ : ∃ z, z = σ := ⟨_, rfl⟩
  rw [← hσ0] at hc
  have hF : Eqo 42 17 σ0 σ := by rw [hσ0]; exact Eqo.rf
  have hU1 := hU.1
  have F71 : ∀ (σ : Wd) (B : Nat → Nat → Int32) (J : Nat → Int32) (e : Nat) (v1 v2 v3 : Option Value), readP tp tl = .inl e → RW σ B L J → (∀ k, k ≠ 3 → k ≠ 4 → B k = A k) → J 1 = nI e → J 2 = b2 true → (∀ k, k ≠ 1 → k ≠ 2 → J k = I k) → Eqo 42 17 σ0 σ → R cx 0 0 n σ 71 [some (.ref 42), v1, v2, v3] [] := by
    intro σ B J e v1 v2 v3 hl hR hB h1 h2 hJ hF
    have hs9 : s_read tp tl = fI e := by unfold s_read; rw [hl]
    rw [hs9, hl] at hc
    refine R.aload_n (j := 0) (i := 0) hc rfl rfl dX7_read_71 ?_
    refine R.iconst hc ic_0 dX7_read_72 ?_
    refine R.putG hc gf_X7_152 dX7_read_73 hR.1 (Nat.le_of_ble_eq_true rfl) (fun _ => rfl) (fun _ => rfl) (fun σ hX hE => ?_)
    have hR := hR.p0 hX hE
    have hF := hF.tr (hE.wid (by omega))
    have h1 : un J 0 (nI 0) 1 = nI e := h1
    have h2 : un J 0 (nI 0) 2 = b2 true := h2
    refine R.aload_n (j := 0) (i := 0) hc rfl rfl dX7_read_76 ?_
    refine R.gtV hc gf_X7_158_r dX7_read_77 hR.1 rfl (h2) ?_
    refine R.ifB_eq (tgt := 91) hc dX7_read_80 (by decide) (fun z => absurd z (by decide)) (fun _ => ?_)
    refine R.bipush hc bp_m20 dX7_read_83 ?_
    refine R.aload_n (j := 0) (i := 0) hc rfl rfl dX7_read_85 ?_
    refine R.gtV hc gf_X7_155_r dX7_read_86 hR.1 rfl (h1) ?_
    refine R.isub hc dX7_read_89 ?_
    refine R.iret hc rfl dX7_read_90 ⟨rfl, rfl, ⟨B, L, un J 0 (nI 0), hR, ?_⟩, hF⟩
    refine ⟨by rw [hB 0 (by omega) (by omega)]; exact hS.n, by rw [hB 5 (by omega) (by omega)]; exact hS.u, ?_, hS.ul, fun j hj => absurd hj (by omega), rfl, ?_, by rw [hB 12 (by omega) (by omega)]; exact hS.l, by rw [hB 13 (by omega) (by omega)]; exact hS.s, hS.i⟩
    · rw [un, if_neg (by omega), hJ 3 (by omega) (by omega)]; exact hS.un
    · rw [un, if_neg (by omega), un, if_neg (by omega), hB 11 (by omega) (by omega), hJ 4 (by omega) (by omega), hJ 5 (by omega) (by omega)]; exact hS.k
  have F48 : ∀ (σ : Wd) (B : Nat → Nat → Int32) (J : Nat → Int32) (e : Nat) (v1 v2 v3 : Option Value), readP tp tl = .inl e → RW σ B L J → (∀ k, k ≠ 3 → k ≠ 4 → B k = A k) → J 1 = nI e → J 2 = b2 true → (∀ k, k ≠ 1 → k ≠ 2 → J k = I k) → Eqo 42 17 σ0 σ → R cx 0 0 n σ 48 [some (.ref 42), v1, v2, v3] [] := by
    intro σ B J e v1 v2 v3 hl hR hB h1 h2 hJ hF
    refine R.aload_n (j := 0) (i := 0) hc rfl rfl dX7_read_48 ?_
    refine R.aload_n (j := 0) (i := 0) hc rfl rfl dX7_read_49 ?_
    refine R.gtV hc gf_X7_158_r dX7_read_50 hR.1 rfl (h2) ?_
    refine R.ifB_ne (tgt := 63) hc dX7_read_53 (by decide) (fun _ => ?_) (fun z => absurd z (by decide))
    refine R.iconst hc ic_1 dX7_read_63 ?_
    refine R.goto (tgt := 68) hc dX7_read_64 (by decide) ?_
    refine R.putG hc gf_X7_158 dX7_read_68 hR.1 (Nat.le_of_ble_eq_true rfl) (fun _ => rfl) (fun _ => rfl) (fun σ hX hE => ?_)
    have hR := hR.p2 hX hE
    have hF := hF.tr (hE.wid (by omega))
    exact F71 σ B _ e v1 v2 v3 hl hR hB h1 rfl (fun k k1 k2 => by rw [un, if_neg k2]; exact hJ k k1 k2) hF
  have G48 : ∀ (σ : Wd) (B : Nat → Nat → Int32) (J : Nat → Int32) (e : Nat) (b : SA) (mp mq : Nat) (v3 : Option Value), e ≤ tl → readP tp tl = finP tp tl b mp mq e → 0 < mp → mp ≤ 7 → mq ≤ 6 → PuG b mp (B 3) → PeG b mq (B 4) → (∀ q, q < mq → b 6 q = 0) → RW σ B L J → (∀ k, k ≠ 3 → k ≠ 4 → B k = A k) → J 1 = nI e → J 2 = b2 false → (∀ k, k ≠ 1 → k ≠ 2 → J k = I k) → Eqo 42 17 σ0 σ → R cx 0 0 n σ 48 [some (.ref 42), some (.int (nI mp)), some (.int (nI mq)), v3] [] := by
    intro σ B J e b mp mq v3 he hl hm0 hm7 hq6 hPu hPe hb6 hR hB h1 h2 hJ hF
    have hcl := chr_lt (i := sk tp tl e) hU
    have hsk := sk_le (tp := tp) he
    have h0 : J 0 = nI tl := by rw [hJ 0 (by omega) (by omega)]; exact hS.tn
    have hT : ∀ j, j < tl → B 2 j = nI (tp j) := fun j hj => by rw [hB 2 (by omega) (by omega)]; exact hS.t j hj
    refine R.aload_n (j := 0) (i := 0) hc rfl rfl dX7_read_48 ?_
    refine R.aload_n (j := 0) (i := 0) hc rfl rfl dX7_read_49 ?_
    refine R.gtV hc gf_X7_158_r dX7_read_50 hR.1 rfl (h2) ?_
    refine R.ifB_ne (tgt := 63) hc dX7_read_53 (by decide) (fun z => absurd z (by decide)) (fun _ => ?_)
    refine R.aload_n (j := 0) (i := 0) hc rfl rfl dX7_read_56 ?_
    refine R.cVi hc m_X7_here lk_X7_162 dX7_read_57 (c_X7_here l (d + 3) X n hR hT hU h0 h1 (by omega)) (hR.1) rfl rfl rfl (by omega) ⟨Nat.le_refl _, Nat.le_refl _⟩ (Nat.le_of_ble_eq_true rfl) (fun σ hX => ?_)
    obtain ⟨K, hR, k1, hK, hE⟩ := hX
    have hF := hF.tr hE
    have h2 : K 2 = b2 false := by rw [hK 2 (by omega)]; exact h2
    have h1 : K 1 = nI (sk tp tl e) := k1
    have hJ : ∀ k, k ≠ 1 → k ≠ 2 → K k = I k := fun k h3 h4 => (hK k h3).trans (hJ k h3 h4)
    refine R.ifN_eq (tgt := 67) hc dX7_read_60 (by decide) (by omega) (fun z => ?_) (fun z => ?_)
    rotate_left
    · have z := Nat.lt_of_not_le (fun y => z ((chr_z hU).mpr (Nat.not_lt.mpr y)))
      rw [finP, if_pos z] at hl
      refine R.iconst hc ic_1 dX7_read_63 ?_
      refine R.goto (tgt := 68) hc dX7_read_64 (by decide) ?_
      refine R.putG hc gf_X7_158 dX7_read_68 hR.1 (Nat.le_of_ble_eq_true rfl) (fun _ => rfl) (fun _ => rfl) (fun σ hX hE => ?_)
      have hR := hR.p2 hX hE
      have hF := hF.tr (hE.wid (by omega))
      exact F71 σ B _ (sk tp tl e) _ _ v3 hl hR hB h1 rfl (fun k k1 k2 => by rw [un, if_neg k2]; exact hJ k k1 k2) hF
    rw [finP, if_neg ((chr_z hU).mp z)] at hl
    have hs9 : s_read tp tl = nI mp := by unfold s_read; rw [hl]
    rw [hs9, hl] at hc
    refine R.iconst hc ic_0 dX7_read_67 ?_
    refine R.putG hc gf_X7_158 dX7_read_68 hR.1 (Nat.le_of_ble_eq_true rfl) (fun _ => rfl) (fun _ => rfl) (fun σ hX hE => ?_)
    have hR := hR.p2 hX hE
    have hF := hF.tr (hE.wid (by omega))
    refine R.aload_n (j := 0) (i := 0) hc rfl rfl dX7_read_71 ?_
    refine R.iconst hc ic_0 dX7_read_72 ?_
    refine R.putG hc gf_X7_152 dX7_read_73 hR.1 (Nat.le_of_ble_eq_true rfl) (fun _ => rfl) (fun _ => rfl) (fun σ hX hE => ?_)
    have hR := hR.p0 hX hE
    have hF := hF.tr (hE.wid (by omega))
    have hJ9 : ∀ k, 3 ≤ k → un (un K 2 (nI 0)) 0 (nI 0) k = I k := fun k hk => by rw [un, if_neg (by omega), un, if_neg (by omega)]; exact hJ k (by omega) (by omega)
    have h2 : un (un K 2 (nI 0)) 0 (nI 0) 2 = b2 false := rfl
    have h09 : un (un K 2 (nI 0)) 0 (nI 0) 0 = nI 0 := rfl
    obtain ⟨J, hJJ⟩ : ∃ z, z = un (un K 2 (nI 0)) 0 (nI 0) := ⟨_, rfl⟩
    rw [← hJJ] at hJ9 h2 h09 hR
    refine R.aload_n (j := 0) (i := 0) hc rfl rfl dX7_read_76 ?_
    refine R.gtV hc gf_X7_158_r dX7_read_77 hR.1 rfl (h2) ?_
    refine R.ifB_eq (tgt := 91) hc dX7_read_80 (by decide) (fun _ => ?_) (fun z => absurd z (by decide))
    have hN0 := hS.n
    rw [← hB 0 (by omega) (by omega)] at hN0
    refine R.aload_n (j := 0) (i := 0) hc rfl rfl dX7_read_91 ?_
    refine R.get hc gf_X7_7_r dX7_read_92 (hR.1) rfl ?_
    refine R.iconst hc ic_0 dX7_read_95 ?_
    refine R.iconst hc ic_0 dX7_read_96 ?_
    refine R.iastG hc dX7_read_97 hR.g0 (by omega) (by decide) (fun σ hX hE => ?_)
    have hR := hR.w0 hX hE
    have hF := hF.tr (hE.wid (by omega))
    refine R.aload_n (j := 0) (i := 0) hc rfl rfl dX7_read_98 ?_
    refine R.get hc gf_X7_7_r dX7_read_99 (hR.1) rfl ?_
    refine R.iconst hc ic_1 dX7_read_102 ?_
    refine R.iconst hc ic_0 dX7_read_103 ?_
    refine R.iastG hc dX7_read_104 hR.g0 (by omega) (by decide) (fun σ hX hE => ?_)
    have hR := hR.w0 hX hE
    have hF := hF.tr (hE.wid (by omega))
    refine R.aload_n (j := 0) (i := 0) hc rfl rfl dX7_read_105 ?_
    refine R.get hc gf_X7_7_r dX7_read_106 (hR.1) rfl ?_
    refine R.iconst hc ic_2 dX7_read_109 ?_
    refine R.iconst hc ic_0 dX7_read_110 ?_
    refine R.iastG hc dX7_read_111 hR.g0 (by omega) (by decide) (fun σ hX hE => ?_)
    have hR := hR.w0 hX hE
    have hF := hF.tr (hE.wid (by omega))
    refine R.iconst hc ic_0 dX7_read_112 ?_
    refine R.istn3 hc dX7_read_113 (by decide) rfl ?_
    have hN1 : NowR (A2 (A2 (A2 B 0 0 (nI 0)) 0 1 (nI 0)) 0 2 (nI 0) 0) b 0 0 0 dr := by
      rw [A2_s, A2_s, A2_s]
      refine ⟨by rw [pk_un (by omega), pk_un (by omega), pk_us], by rw [pk_un (by omega), pk_us], pk_us, by rw [pk_un (by omega), pk_un (by omega), pk_un (by omega)]; exact hN0.2.2.2.1, fun k hk p hp => absurd hp (by omega), fun k hk p hp => absurd hp (by omega), fun p hp => absurd hp (by omega)⟩
    have hB1 : ∀ k, k ≠ 0 → A2 (A2 (A2 B 0 0 (nI 0)) 0 1 (nI 0)) 0 2 (nI 0) k = B k := fun k hk => by rw [A2_n hk, A2_n hk, A2_n hk]
    obtain ⟨B1, hBB⟩ : ∃ z, z = A2 (A2 (A2 B 0 0 (nI 0)) 0 1 (nI 0)) 0 2 (nI 0) := ⟨_, rfl⟩
    rw [← hBB] at hN1 hB1 hR
    have L2 : ∀ (j q : Nat) (σ : Wd) (B' : Nat → Nat → Int32) (J : Nat → Int32) (a' : SA), q + j = mq → RW σ B' L J → NowR (B' 0) a' mp q 0 dr → (∀ k, k < 3 → ∀ p, p < mp → b k p = a' k p) → (∀ k, 3 ≤ k → k < 7 → ∀ p, p < q → b k p = a' k p) → (∀ k, k ≠ 0 → B' k = B k) → J 3 = nI 0 → J 0 = nI 0 → (∀ k, 4 ≤ k → J k = I k) → Eqo 42 17 σ0 σ → R cx 0 0 n σ 159 [some (.ref 42), some (.int (nI mp)), some (.int (nI mq)), some (.int (nI q))] [] := by
      intro j
      induction j with
      | zero =>
        intro q σ B' J a' hj hR hN e1 e2 hB' h3 h0 hJ hF
        refine R.iload_n (j := 3) (i := 3) hc rfl rfl dX7_read_159 ?_
        refine R.iload_n (j := 2) (i := 2) hc rfl rfl dX7_read_160 ?_
        refine R.icmpN_ge (tgt := 202) hc dX7_read_161 (by decide) (by omega) (by omega) (fun _ => ?_) (fun z => absurd (by omega) z)
        refine R.iload_n (j := 1) (i := 1) hc rfl rfl dX7_read_202 ?_
        have hq : q = mq := by omega
        subst hq
        refine R.iret hc rfl dX7_read_203 ⟨rfl, rfl, ⟨B', L, J, hR, ?_⟩, hF⟩
        refine ⟨hN.ext e1 e2, fun i s hi => absurd hi (by simp), h3, by simp, fun j hj => absurd hj (by omega), h0, ?_, ?_, ?_, hS.i⟩
        · rw [hB' 11 (by omega), hB 11 (by omega) (by omega), hJ 4 (by omega), hJ 5 (by omega)]; exact hS.k
        · rw [hB' 12 (by omega), hB 12 (by omega) (by omega)]; exact hS.l
        · rw [hB' 13 (by omega), hB 13 (by omega) (by omega)]; exact hS.s
      | succ j ih =>
        intro q σ B' J a' hj hR hN e1 e2 hB' h3 h0 hJ hF
        obtain ⟨g1, g2, g3⟩ := hPe q (by omega)
        rw [← hB' 4 (by omega)] at g1 g2 g3
        refine R.iload_n (j := 3) (i := 3) hc rfl rfl dX7_read_159 ?_
        refine R.iload_n (j := 2) (i := 2) hc rfl rfl dX7_read_160 ?_
        refine R.icmpN_ge (tgt := 202) hc dX7_read_161 (by decide) (by omega) (by omega) (fun z => absurd z (by omega)) (fun _ => ?_)
        refine R.aload_n (j := 0) (i := 0) hc rfl rfl dX7_read_164 ?_
        refine R.aload_n (j := 0) (i := 0) hc rfl rfl dX7_read_165 ?_
        refine R.get hc gf_X7_22_r dX7_read_166 (hR.1) rfl ?_
        refine R.iconst hc ic_3 dX7_read_169 ?_
        refine R.iload_n (j := 3) (i := 3) hc rfl rfl dX7_read_170 ?_
        first | refine R.imulN hc dX7_read_171 ?_ | refine R.imul hc dX7_read_171 ?_
        refine R.ialdV hc hR.g4 (by omega) (by decide) dX7_read_172 (g1) ?_
        refine R.aload_n (j := 0) (i := 0) hc rfl rfl dX7_read_173 ?_
        refine R.get hc gf_X7_22_r dX7_read_174 (hR.1) rfl ?_
        refine R.iconst hc ic_3 dX7_read_177 ?_
        refine R.iload_n (j := 3) (i := 3) hc rfl rfl dX7_read_178 ?_
        first | refine R.imulN hc dX7_read_179 ?_ | refine R.imul hc dX7_read_179 ?_
        refine R.iconst hc ic_1 dX7_read_180 ?_
        first | refine R.iaddN hc dX7_read_181 ?_ | refine R.iadd hc dX7_read_181 ?_
        refine R.ialdV hc hR.g4 (by omega) (by decide) dX7_read_182 (g2) ?_
        refine R.aload_n (j := 0) (i := 0) hc rfl rfl dX7_read_183 ?_
        refine R.get hc gf_X7_22_r dX7_read_184 (hR.1) rfl ?_
        refine R.iconst hc ic_3 dX7_read_187 ?_
        refine R.iload_n (j := 3) (i := 3) hc rfl rfl dX7_read_188 ?_
        first | refine R.imulN hc dX7_read_189 ?_ | refine R.imul hc dX7_read_189 ?_
        refine R.iconst hc ic_2 dX7_read_190 ?_
        first | refine R.iaddN hc dX7_read_191 ?_ | refine R.iadd hc dX7_read_191 ?_
        refine R.ialdV hc hR.g4 (by omega) (by decide) dX7_read_192 (g3) ?_
        refine R.cVu hc m_X7_personComes lk_X7_126 dX7_read_193 (c_X7_personComes l (d + 2) X n hR hN hm7 (by omega) _ _ _) (hR.1) rfl rfl rfl (by omega) ⟨Nat.le_refl _, Nat.le_refl _⟩ (Nat.le_of_ble_eq_true rfl) (fun σ hX => ?_)
        obtain ⟨B2, hR, hN2, hB2, hE⟩ := hX
        have hF := hF.tr hE
        refine R.iinc3 hc dX7_read_196 (iiN1 _) (by decide) rfl ?_
        refine R.goto (tgt := 159) hc dX7_read_199 (by decide) ?_
        refine ih (q + 1) σ B2 _ _ (by omega) hR hN2 (fun k hk p hp => ?_) (fun k hk hk7 p hp => ?_) (fun k hk => (hB2 k hk).trans (hB' k hk)) rfl (by rw [un, if_neg (by omega)]; exact h0) (fun k hk => by rw [un, if_neg (by omega)]; exact hJ k hk) hF
        · rw [a4, a2_n (by omega), a2_n (by omega), a2_n (by omega), a2_n (by omega)]; exact e1 k hk p hp
        · by_cases y : p = q
          · subst y
            have hk9 : k = 3 ∨ k = 4 ∨ k = 5 ∨ k = 6 := by omega
            rcases hk9 with rfl | rfl | rfl | rfl
            · simp [a4, a2]
            · simp [a4, a2]
            · simp [a4, a2]
            · rw [hb6 p (by omega)]; simp [a4, a2]
          · rw [a4, a2_n (by omega), a2_n (by omega), a2_n (by omega), a2_n (by omega)]; exact e2 k hk hk7 p (by omega)
    have L1 : ∀ (j p : Nat) (σ : Wd) (B' : Nat → Nat → Int32) (J : Nat → Int32) (a' : SA), p + j = mp → RW σ B' L J → NowR (B' 0) a' p 0 0 dr → (∀ k, k < 3 → ∀ p', p' < p → b k p' = a' k p') → (∀ k, k ≠ 0 → B' k = B k) → (0 < p → J 3 = nI 0) → J 0 = nI 0 → (∀ k, 4 ≤ k → J k = I k) → Eqo 42 17 σ0 σ → R cx 0 0 n σ 114 [some (.ref 42), some (.int (nI mp)), some (.int (nI mq)), some (.int (nI p))] [] := by
      intro j
      induction j with
      | zero =>
        intro p σ B' J a' hj hR hN e1 hB' h3 h0 hJ hF
        refine R.iload_n (j := 3) (i := 3) hc rfl rfl dX7_read_114 ?_
        refine R.iload_n (j := 1) (i := 1) hc rfl rfl dX7_read_115 ?_
        refine R.icmpN_ge (tgt := 157) hc dX7_read_116 (by decide) (by omega) (by omega) (fun _ => ?_) (fun z => absurd (by omega) z)
        refine R.iconst hc ic_0 dX7_read_157 ?_
        refine R.istn3 hc dX7_read_158 (by decide) rfl ?_
        have hp : p = mp := by omega
        subst hp
        exact L2 mq 0 σ B' J a' (by omega) hR hN e1 (fun k _ _ p hp => absurd hp (by omega)) hB' (h3 hm0) h0 hJ hF
      | succ j ih =>
        intro p σ B' J a' hj hR hN e1 hB' h3 h0 hJ hF
        obtain ⟨g1, g2, g3⟩ := hPu p (by omega)
        rw [← hB' 3 (by omega)] at g1 g2 g3
        refine R.iload_n (j := 3) (i := 3) hc rfl rfl dX7_read_114 ?_
        refine R.iload_n (j := 1) (i := 1) hc rfl rfl dX7_read_115 ?_
        refine R.icmpN_ge (tgt := 157) hc dX7_read_116 (by decide) (by omega) (by omega) (fun z => absurd z (by omega)) (fun _ => ?_)
        refine R.aload_n (j := 0) (i := 0) hc rfl rfl dX7_read_119 ?_
        refine R.aload_n (j := 0) (i := 0) hc rfl rfl dX7_read_120 ?_
        refine R.get hc gf_X7_19_r dX7_read_121 (hR.1) rfl ?_
        refine R.iconst hc ic_3 dX7_read_124 ?_
        refine R.iload_n (j := 3) (i := 3) hc rfl rfl dX7_read_125 ?_
        first | refine R.imulN hc dX7_read_126 ?_ | refine R.imul hc dX7_read_126 ?_
        refine R.ialdV hc hR.g3 (by omega) (by decide) dX7_read_127 (g1) ?_
        refine R.aload_n (j := 0) (i := 0) hc rfl rfl dX7_read_128 ?_
        refine R.get hc gf_X7_19_r dX7_read_129 (hR.1) rfl ?_
        refine R.iconst hc ic_3 dX7_read_132 ?_
        refine R.iload_n (j := 3) (i := 3) hc rfl rfl dX7_read_133 ?_
        first | refine R.imulN hc dX7_read_134 ?_ | refine R.imul hc dX7_read_134 ?_
        refine R.iconst hc ic_1 dX7_read_135 ?_
        first | refine R.iaddN hc dX7_read_136 ?_ | refine R.iadd hc dX7_read_136 ?_
        refine R.ialdV hc hR.g3 (by omega) (by decide) dX7_read_137 (g2) ?_
        refine R.aload_n (j := 0) (i := 0) hc rfl rfl dX7_read_138 ?_
        refine R.get hc gf_X7_19_r dX7_read_139 (hR.1) rfl ?_
        refine R.iconst hc ic_3 dX7_read_142 ?_
        refine R.iload_n (j := 3) (i := 3) hc rfl rfl dX7_read_143 ?_
        first | refine R.imulN hc dX7_read_144 ?_ | refine R.imul hc dX7_read_144 ?_
        refine R.iconst hc ic_2 dX7_read_145 ?_
        first | refine R.iaddN hc dX7_read_146 ?_ | refine R.iadd hc dX7_read_146 ?_
        refine R.ialdV hc hR.g3 (by omega) (by decide) dX7_read_147 (g3) ?_
        refine R.cVu hc m_X7_puddleComes lk_X7_119 dX7_read_148 (c_X7_puddleComes l (d + 3) X n hR hN (by omega) _ _ _) (hR.1) rfl rfl rfl (by omega) ⟨Nat.le_refl _, Nat.le_refl _⟩ (Nat.le_of_ble_eq_true rfl) (fun σ hX => ?_)
        obtain ⟨B2, hR, hN2, hB2, hE⟩ := hX
        have hF := hF.tr hE
        refine R.iinc3 hc dX7_read_151 (iiN1 _) (by decide) rfl ?_
        refine R.goto (tgt := 114) hc dX7_read_154 (by decide) ?_
        refine ih (p + 1) σ B2 _ _ (by omega) hR hN2 (fun k hk p' hp => ?_) (fun k hk => (hB2 k hk).trans (hB' k hk)) (fun _ => rfl) (by rw [un, if_neg (by omega)]; exact h0) (fun k hk => by rw [un, if_neg (by omega)]; exact hJ k hk) hF
        by_cases y : p' = p
        · subst y
          have hk9 : k = 0 ∨ k = 1 ∨ k = 2 := by omega
          rcases hk9 with rfl | rfl | rfl
          · simp [a3, a2]
          · simp [a3, a2]
          · simp [a3, a2]
        · rw [a3, a2_n (by omega), a2_n (by omega), a2_n (by omega)]; exact e1 k hk p' (by omega)
    exact L1 mp 0 σ B1 J b (by omega) hR hN1 (fun k _ p hp => absurd hp (by omega)) hB1 (fun hp => absurd hp (by omega)) h09 (fun k hk => hJ9 k (by omega)) hF
  refine R.aload_n (j := 0) (i := 0) hc rfl rfl dX7_read_0 ?_
  refine R.iconst hc ic_0 dX7_read_1 ?_
  refine R.putG hc gf_X7_155 dX7_read_2 hR.1 (Nat.le_of_ble_eq_true rfl) (fun _ => rfl) (fun _ => rfl) (fun σ hX hE => ?_)
  have hR := hR.p1 hX hE
  have hF := hF.tr (hE.wid (by omega))
  refine R.aload_n (j := 0) (i := 0) hc rfl rfl dX7_read_5 ?_
  refine R.iconst hc ic_0 dX7_read_6 ?_
  refine R.putG hc gf_X7_158 dX7_read_7 hR.1 (Nat.le_of_ble_eq_true rfl) (fun _ => rfl) (fun _ => rfl) (fun σ hX hE => ?_)
  have hR := hR.p2 hX hE
  have hF := hF.tr (hE.wid (by omega))
  have h1 : un (un I 1 (nI 0)) 2 (nI 0) 1 = nI 0 := rfl
  have h2 : un (un I 1 (nI 0)) 2 (nI 0) 2 = b2 false := rfl
  have hJ : ∀ k, k ≠ 1 → k ≠ 2 → un (un I 1 (nI 0)) 2 (nI 0) k = I k := fun k k1 k2 => by rw [un, if_neg k2, un, if_neg k1]
  obtain ⟨J, hJJ⟩ : ∃ z, z = un (un I 1 (nI 0)) 2 (nI 0) := ⟨_, rfl⟩
  rw [← hJJ] at h1 h2 hJ hR
  have h0 : J 0 = nI tl := by rw [hJ 0 (by omega) (by omega)]; exact hS.tn
  have hT := hS.t
  have hrd : readP tp tl = (match pudP tp tl 7 (fun _ _ => 0) 0 0 with
    | .inl f => .inl f
    | .inr q => if takeB tp tl 59 q.2.2 then (match peoP tp tl 6 q.1 0 (sk tp tl q.2.2 + 1) with
      | .inl f => .inl f
      | .inr r => finP tp tl r.1 q.2.1 r.2.1 r.2.2) else finP tp tl q.1 q.2.1 0 (sk tp tl q.2.2)) := rfl
  have E1 : ∀ (v : Option Value) (σ1 : Wd) (e : Nat), readP tp tl = .inl e → (∃ x, v = some (.int x)) → PL9 σ σ1 3 A L J e true (fun _ => True) → R cx 0 0 n σ1 14 [some (.ref 42), none, none, none] (v.toList ++ []) := by
    rintro v σ1 e hl ⟨x, rfl⟩ ⟨B, K, hR, hB, -, h1, h2, hK, hE⟩
    have hF := hF.tr hE
    have hJ : ∀ k, k ≠ 1 → k ≠ 2 → K k = I k := fun k k1 k2 => (hK k k1 k2).trans (hJ k k1 k2)
    refine R.istn1 hc dX7_read_14 (by decide) rfl ?_
    refine R.iconst hc ic_0 dX7_read_15 ?_
    refine R.istn2 hc dX7_read_16 (by decide) rfl ?_
    refine R.aload_n (j := 0) (i := 0) hc rfl rfl dX7_read_17 ?_
    refine R.gtV hc gf_X7_158_r dX7_read_18 hR.1 rfl (h2) ?_
    refine R.ifB_ne (tgt := 48) hc dX7_read_21 (by decide) (fun _ => ?_) (fun z => absurd z (by decide))
    exact F48 σ1 B K e _ _ _ hl hR (fun k k3 _ => hB k k3) h1 h2 hJ hF
  refine R.aload_n (j := 0) (i := 0) hc rfl rfl dX7_read_10 ?_
  refine R.cVg hc m_X7_puddlesRead lk_X7_183 dX7_read_11 (c_X7_puddlesRead l (d + 1) X n hR hT hU h0 h1 h2) (hR.1) rfl rfl rfl (by omega) ⟨Nat.le_refl _, Nat.le_refl _⟩ (Nat.le_of_ble_eq_true rfl) (fun v σ hX => ?_)
  cases hp : pudP tp tl 7 (fun _ _ => 0) 0 0 with
  | inl e =>
    rw [hp] at hrd hX
    exact E1 v σ e hrd hX.1 hX.2
  | inr q =>
    rw [hp] at hrd hX
    have hql := pudP_len tp tl 7 _ 0 0 q hp
    have hqe := pudP_ok tp tl 7 _ 0 0 q (Nat.zero_le _) hp
    have hsk := sk_le (tp := tp) hqe
    have t44 := takeB_chr (tp := tp) (tl := tl) (i := q.2.2) (show 0 < 44 by omega)
    have t59 := takeB_chr (tp := tp) (tl := tl) (i := q.2.2) (show 0 < 59 by omega)
    have hX : if takeB tp tl 44 q.2.2 = true then _ else _ := hX
    by_cases y : chr tp tl (sk tp tl q.2.2) = 44
    · rw [decide_eq_true y] at t44
      rw [if_pos t44] at hX
      refine E1 v σ (sk tp tl q.2.2) ?_ hX.1 hX.2
      rw [decide_eq_false (by omega)] at t59
      have hst : sk tp tl q.2.2 < tl := by
        unfold chr at y
        split at y
        · assumption
        · omega
      rw [hrd]
      show (if takeB tp tl 59 q.2.2 = true then _ else _) = _
      rw [t59, if_neg (by decide), finP, sk_sk hqe, if_pos hst]
    · rw [decide_eq_false y] at t44
      rw [if_neg (by rw [t44]; decide)] at hX
      obtain ⟨rfl, B, K, hR, hB, hPu, h1, h2, hK, hE⟩ := hX
      have hF := hF.tr hE
      have hJ : ∀ k, k ≠ 1 → k ≠ 2 → K k = I k := fun k k1 k2 => (hK k k1 k2).trans (hJ k k1 k2)
      have h0 : K 0 = nI tl := by rw [hJ 0 (by omega) (by omega)]; exact hS.tn
      have hT : ∀ j, j < tl → B 2 j = nI (tp j) := fun j hj => by rw [hB 2 (by omega)]; exact hS.t j hj
      have hcl := chr_lt (i := sk tp tl (sk tp tl q.2.2)) hU
      refine R.istn1 hc dX7_read_14 (by decide) rfl ?_
      refine R.iconst hc ic_0 dX7_read_15 ?_
      refine R.istn2 hc dX7_read_16 (by decide) rfl ?_
      refine R.aload_n (j := 0) (i := 0) hc rfl rfl dX7_read_17 ?_
      refine R.gtV hc gf_X7_158_r dX7_read_18 hR.1 rfl (h2) ?_
      refine R.ifB_ne (tgt := 48) hc dX7_read_21 (by decide) (fun z => absurd z (by decide)) (fun _ => ?_)
      refine R.aload_n (j := 0) (i := 0) hc rfl rfl dX7_read_24 ?_
      refine R.cVi hc m_X7_here lk_X7_162 dX7_read_25 (c_X7_here l (d + 3) X n hR hT hU h0 h1 hsk.2) (hR.1) rfl rfl rfl (by omega) ⟨Nat.le_refl _, Nat.le_refl _⟩ (Nat.le_of_ble_eq_true rfl) (fun σ hX => ?_)
      obtain ⟨N, hR, k1, hN9, hE⟩ := hX
      have hF := hF.tr hE
      have h2 : N 2 = b2 false := by rw [hN9 2 (by omega)]; exact h2
      have h1 : N 1 = nI (sk tp tl q.2.2) := by rw [k1, sk_sk hqe]
      have hJ : ∀ k, k ≠ 1 → k ≠ 2 → N k = I k := fun k h3 h4 => (hN9 k h3).trans (hJ k h3 h4)
      rw [sk_sk hqe] at hcl ⊢
      refine R.bipush hc bp_59 dX7_read_28 ?_
      refine R.icmpN_ne (tgt := 48) hc dX7_read_30 (by decide) (by omega) (by omega) (fun z => ?_) (fun z => ?_)
      · rw [decide_eq_false z] at t59
        refine G48 σ B N (sk tp tl q.2.2) q.1 q.2.1 0 _ hsk.2 ?_ (hql.1 (by omega)) (by omega) (by omega) hPu (fun p hp => absurd hp (by omega)) (fun p hp => absurd hp (by omega)) hR (fun k k3 _ => hB k k3) h1 h2 hJ hF
        rw [hrd]
        show (if takeB tp tl 59 q.2.2 = true then _ else _) = _
        rw [t59, if_neg (by decide)]
      · rw [decide_eq_true z] at t59
        have hst : sk tp tl q.2.2 < tl := by
          unfold chr at z
          split at z
          · assumption
          · omega
        refine R.aload_n (j := 0) (i := 0) hc rfl rfl dX7_read_33 ?_
        refine R.dup hc rfl dX7_read_34 ?_
        refine R.gtV hc gf_X7_155_r dX7_read_35 hR.1 rfl (h1) ?_
        refine R.iconst hc ic_1 dX7_read_38 ?_
        first | refine R.iaddN hc dX7_read_39 ?_ | refine R.iadd hc dX7_read_39 ?_
        refine R.putG hc gf_X7_155 dX7_read_40 hR.1 (Nat.le_of_ble_eq_true rfl) (fun _ => rfl) (fun _ => rfl) (fun σ hX hE => ?_)
        have hR := hR.p1 hX hE
        have hF := hF.tr (hE.wid (by omega))
        have h1 : un N 1 (nI (sk tp tl q.2.2 + 1)) 1 = nI (sk tp tl q.2.2 + 1) := rfl
        have h2 : un N 1 (nI (sk tp tl q.2.2 + 1)) 2 = b2 false := h2
        have hJ : ∀ k, k ≠ 1 → k ≠ 2 → un N 1 (nI (sk tp tl q.2.2 + 1)) k = I k := fun k k1 k2 => by rw [un, if_neg k1]; exact hJ k k1 k2
        obtain ⟨P, hPP⟩ : ∃ z, z = un N 1 (nI (sk tp tl q.2.2 + 1)) := ⟨_, rfl⟩
        rw [← hPP] at h1 h2 hJ hR
        have h0 : P 0 = nI tl := by rw [hJ 0 (by omega) (by omega)]; exact hS.tn
        have hrd : readP tp tl = (match peoP tp tl 6 q.1 0 (sk tp tl q.2.2 + 1) with
          | .inl f => .inl f
          | .inr r => finP tp tl r.1 q.2.1 r.2.1 r.2.2) := by
          rw [hrd]
          show (if takeB tp tl 59 q.2.2 = true then _ else _) = _
          rw [t59, if_pos rfl]
        have E2 : ∀ (v : Option Value) (σ1 : Wd) (e : Nat), readP tp tl = .inl e → (∃ x, v = some (.int x)) → PL9 σ σ1 4 B L P e true (fun _ => True) → R cx 0 0 n σ1 47 [some (.ref 42), some (.int (nI q.2.1)), some (.int (nI 0)), none] (v.toList ++ []) := by
          rintro v σ1 e hl ⟨x, rfl⟩ ⟨B2, K, hR, hB2, -, h1, h2, hK, hE⟩
          have hF := hF.tr hE
          have hJ : ∀ k, k ≠ 1 → k ≠ 2 → K k = I k := fun k k1 k2 => (hK k k1 k2).trans (hJ k k1 k2)
          refine R.istn2 hc dX7_read_47 (by decide) rfl ?_
          exact F48 σ1 B2 K e _ _ _ hl hR (fun k k3 k4 => (hB2 k k4).trans (hB k k3)) h1 h2 hJ hF
        refine R.aload_n (j := 0) (i := 0) hc rfl rfl dX7_read_43 ?_
        refine R.cVg hc m_X7_peopleRead lk_X7_186 dX7_read_44 (c_X7_peopleRead l d X n hR hT hU h0 h1 hst h2 q.1) (hR.1) rfl rfl rfl (by omega) ⟨Nat.le_refl _, Nat.le_refl _⟩ (Nat.le_of_ble_eq_true rfl) (fun v σ hX => ?_)
        cases hp2 : peoP tp tl 6 q.1 0 (sk tp tl q.2.2 + 1) with
        | inl e =>
          rw [hp2] at hrd hX
          exact E2 v σ e hrd hX.1 hX.2
        | inr r =>
          rw [hp2] at hrd hX
          have hrl := peoP_len tp tl 6 _ 0 _ r hp2
          have hre := peoP_ok tp tl 6 _ 0 _ r hst hp2
          have hrk := sk_le (tp := tp) hre
          have r44 := takeB_chr (tp := tp) (tl := tl) (i := r.2.2) (show 0 < 44 by omega)
          have hX : if takeB tp tl 44 r.2.2 = true then _ else _ := hX
          by_cases y : chr tp tl (sk tp tl r.2.2) = 44
          · rw [decide_eq_true y] at r44
            rw [if_pos r44] at hX
            refine E2 v σ (sk tp tl r.2.2) ?_ hX.1 hX.2
            have hst : sk tp tl r.2.2 < tl := by
              unfold chr at y
              split at y
              · assumption
              · omega
            rw [hrd]
            show finP tp tl r.1 q.2.1 r.2.1 r.2.2 = _
            rw [finP, if_pos hst]
          · rw [decide_eq_false y] at r44
            rw [if_neg (by rw [r44]; decide)] at hX
            obtain ⟨rfl, B2, K2, hR, hB2, hPe, h1, h2, hK, hE⟩ := hX
            have hF := hF.tr hE
            have hJ : ∀ k, k ≠ 1 → k ≠ 2 → K2 k = I k := fun k k1 k2 => (hK k k1 k2).trans (hJ k k1 k2)
            refine R.istn2 hc dX7_read_47 (by decide) rfl ?_
            refine G48 σ B2 K2 (sk tp tl r.2.2) r.1 q.2.1 r.2.1 _ hrk.2 ?_ (hql.1 (by omega)) (by omega) (by omega) ?_ hPe.1 hPe.2.1 hR (fun k k3 k4 => (hB2 k k4).trans (hB k k3)) h1 h2 hJ hF
            · rw [hrd]
              show finP tp tl r.1 q.2.1 r.2.1 r.2.2 = _
              unfold finP
              rw [sk_sk hre]
            · rw [hB2 3 (by omega)]
              intro p hp
              rw [hPe.2.2 0 (by omega), hPe.2.2 1 (by omega), hPe.2.2 2 (by omega)]
              exact hPu p hp
