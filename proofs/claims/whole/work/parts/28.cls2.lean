theorem pudP_ok (tp : Nat → Nat) (tl : Nat) : ∀ j a k i q, i ≤ tl → pudP tp tl j a k i = .inr q → q.2.2 ≤ tl := by
  intro j
  induction j with
  | zero => intro a k i q hi h; rw [pudP] at h; cases h; exact hi
  | succ j ih =>
    intro a k i q hi h
    rw [pudP] at h
    have hs := sk_le (tp := tp) hi
    split at h
    · cases h; exact hs.2
    · rename_i hn
      have hx : (if k = 0 then i else sk tp tl i + 1) ≤ tl := by
        split
        · exact hi
        · rename_i hk
          have hb : takeB tp tl 44 i = true := by
            cases hz : takeB tp tl 44 i
            · exact absurd ⟨by omega, hz⟩ hn
            · rfl
          simp only [takeB, decide_eq_true_eq] at hb
          omega
      split at h
      · cases h
      · rename_i q1 h1
        have o1 := kindP_ok hx h1
        split at h
        · cases h
        · rename_i q2 h2
          have o2 := sightP_ok h2
          split at h
          · cases h
          · rename_i q3 h3
            exact ih _ _ _ _ (numP_ok h3).2.2 h
theorem peoP_ok (tp : Nat → Nat) (tl : Nat) : ∀ j a k i q, i ≤ tl → peoP tp tl j a k i = .inr q → q.2.2 ≤ tl := by
  intro j
  induction j with
  | zero => intro a k i q hi h; rw [peoP] at h; cases h; exact hi
  | succ j ih =>
    intro a k i q hi h
    rw [peoP] at h
    have hs := sk_le (tp := tp) hi
    split at h
    · cases h; exact hs.2
    · rename_i hn
      have hx : (if k = 0 then i else sk tp tl i + 1) ≤ tl := by
        split
        · exact hi
        · rename_i hk
          have hb : takeB tp tl 44 i = true := by
            cases hz : takeB tp tl 44 i
            · exact absurd ⟨by omega, hz⟩ hn
            · rfl
          simp only [takeB, decide_eq_true_eq] at hb
          omega
      split at h
      · cases h
      · rename_i q1 h1
        have o1 := sightP_ok h1
        split at h
        · cases h
        · rename_i q2 h2
          have o2 := behP_ok o1.2 (by omega) h2
          split at h
          · cases h
          · rename_i q3 h3
            exact ih _ _ _ _ (behP_ok o2.2.2 (by omega) h3).2.2 h
theorem readP_bad {tp : Nat → Nat} {tl f : Nat} (h : readP tp tl = .inl f) : f ≤ tl := by
  unfold readP at h
  have hfin : ∀ a np nq i f, i ≤ tl → finP tp tl a np nq i = .inl f → f ≤ tl := by
    intro a np nq i f hi h
    unfold finP at h
    split at h
    · cases h; exact (sk_le hi).2
    · cases h
  split at h
  · rename_i f1 h1; cases h; exact pudP_bad tp tl 7 _ 0 0 _ (Nat.zero_le _) h1
  · rename_i q h1
    have hq := pudP_ok tp tl 7 _ 0 0 q (Nat.zero_le _) h1
    split at h
    · rename_i hb
      simp only [takeB, decide_eq_true_eq] at hb
      split at h
      · rename_i f2 h2; cases h; exact peoP_bad tp tl 6 _ 0 _ _ (by omega) h2
      · rename_i r h2
        exact hfin _ _ _ _ _ (peoP_ok tp tl 6 _ 0 _ r (by omega) h2) h
    · exact hfin _ _ _ _ _ (sk_le hq).2 h
/-- as CA, the draft told -/
def CD (σ : Wd) (da : SA) (dp dq dh dd : Nat) (a : SA) (np nq hr dr : Nat) (hs : List SN) (im : IM) (tp : Nat → Nat) (tl : Nat) (ln sz : Nat → Nat) (it : Nat → Nat → Int64) : Prop :=
  σ 0 = some (.inr (6, [.ref 1, .ref 9, .ref 11, .ref 19, .ref 27, .int (b2 im.isSome), .ref 29, .ref 31, .ref 35, .ref 38])) ∧ St σ 1 a np nq hr dr ∧ Hi σ 9 hs np nq ∧ St σ 11 da dp dq dh dd ∧ Im σ im ∧ (∃ pl, Tp σ 29 tp tl pl) ∧ Sh σ 31 ln sz it ∧ (∃ f h T, Mt σ 35 f h T) ∧ ∃ dep c bs np' sz' hl mo, Od σ 38 dep c bs np' sz' hl mo
section CDS
variable {σ σ' : Wd} {da : SA} {dp dq dh dd : Nat} {a : SA} {np nq hr dr : Nat} {hs : List SN} {im : IM} {tp : Nat → Nat} {tl : Nat} {ln sz : Nat → Nat} {it : Nat → Nat → Int64}
theorem CD.ca (h : CD σ da dp dq dh dd a np nq hr dr hs im tp tl ln sz it) : CA σ a np nq hr dr hs im tp tl ln sz it := by
  obtain ⟨c0, c1, c2, c3, c4, c5, c6, c7, c8⟩ := h
  exact ⟨c0, c1, c2, ⟨_, _, _, _, _, c3⟩, c4, c5, c6, c7, c8⟩
theorem CA.cd (h : CA σ a np nq hr dr hs im tp tl ln sz it) : ∃ da dp dq dh dd, CD σ da dp dq dh dd a np nq hr dr hs im tp tl ln sz it := by
  obtain ⟨c0, c1, c2, ⟨da, dp, dq, dh, dd, c3⟩, c4, c5, c6, c7, c8⟩ := h
  exact ⟨da, dp, dq, dh, dd, c0, c1, c2, c3, c4, c5, c6, c7, c8⟩
theorem CD.w {da' : SA} {dp' dq' dh' dd' : Nat} (h : CD σ da dp dq dh dd a np nq hr dr hs im tp tl ln sz it) (h3 : St σ' 11 da' dp' dq' dh' dd') (hE : Eqo 11 8 σ σ') : CD σ' da' dp' dq' dh' dd' a np nq hr dr hs im tp tl ln sz it := by
  obtain ⟨c0, c1, c2, c3, c4, ⟨xl, c5⟩, c6, ⟨xf, xg, xT, c7⟩, ⟨yd, yc, yb, yn, ys, yl, ym, c8⟩⟩ := h
  exact ⟨(hE 0 (by omega)).trans c0, c1.ag (fun j _ _ => hE j (by omega)), c2.ag (fun j _ _ => hE j (by omega)), h3, c4.ag (fun j _ _ => hE j (by omega)), ⟨xl, c5.ag (fun j _ _ => hE j (by omega))⟩, c6.ag (fun j _ _ => hE j (by omega)), ⟨xf, xg, xT, c7.ag (fun j _ _ => hE j (by omega))⟩, yd, yc, yb, yn, ys, yl, ym, c8.ag (fun j _ _ => hE j (by omega))⟩
theorem CD.sh {ln' sz' : Nat → Nat} {it' : Nat → Nat → Int64} (h : CD σ da dp dq dh dd a np nq hr dr hs im tp tl ln sz it) (h6 : Sh σ' 31 ln' sz' it') (hE : Eqo 31 4 σ σ') : CD σ' da dp dq dh dd a np nq hr dr hs im tp tl ln' sz' it' := by
  obtain ⟨c0, c1, c2, c3, c4, ⟨xl, c5⟩, c6, ⟨xf, xg, xT, c7⟩, ⟨yd, yc, yb, yn, ys, yl, ym, c8⟩⟩ := h
  exact ⟨(hE 0 (by omega)).trans c0, c1.ag (fun j _ _ => hE j (by omega)), c2.ag (fun j _ _ => hE j (by omega)), c3.ag (fun j _ _ => hE j (by omega)), c4.ag (fun j _ _ => hE j (by omega)), ⟨xl, c5.ag (fun j _ _ => hE j (by omega))⟩, h6, ⟨xf, xg, xT, c7.ag (fun j _ _ => hE j (by omega))⟩, yd, yc, yb, yn, ys, yl, ym, c8.ag (fun j _ _ => hE j (by omega))⟩
theorem Im.st {σ : Wd} {im : IM} (h : Im σ im) : (∃ a np nq hr dr, St σ 19 a np nq hr dr) ∧ ∃ hh np nq, Hi σ 27 hh np nq := by
  cases im with
  | none => exact h
  | some q => exact ⟨⟨_, _, _, _, _, h.1⟩, _, _, _, h.2⟩
end CDS
/-- hours that may be undone, with carts or without -/
noncomputable def pStep (cart : Bool) (np nq : Nat) (s : SA × Nat × Nat × List SN) : SA × Nat × Nat × List SN := (hourS (if cart then cartS s.1 np (drw s.2.2.1) else s.1) np nq s.2.1, s.2.1 + 1, (if cart then drw s.2.2.1 else s.2.2.1), remem s.2.2.2 (s.2.1, s.2.2.1, s.1))
noncomputable def pH (cart : Bool) (np nq : Nat) (a : SA) (hr dr : Nat) (hs : List SN) : Nat → SA × Nat × Nat × List SN
  | 0 => (a, hr, dr, hs)
  | k + 1 => pStep cart np nq (pH cart np nq a hr dr hs k)
theorem pH_hr (cart : Bool) (np nq : Nat) (a : SA) (hr dr : Nat) (hs : List SN) : ∀ k, (pH cart np nq a hr dr hs k).2.1 = hr + k := by
  intro k
  induction k with
  | zero => rfl
  | succ k ih =>
    rw [pH]
    generalize pH cart np nq a hr dr hs k = s at *
    simp only [pStep]
    omega
theorem pH_ok {cart : Bool} {np nq : Nat} {a : SA} {hr dr : Nat} {hs : List SN} (hW : WF a np nq) (hd : dr < 2147483648) : ∀ k, WF (pH cart np nq a hr dr hs k).1 np nq ∧ (pH cart np nq a hr dr hs k).2.2.1 < 2147483648 := by
  intro k
  induction k with
  | zero => exact ⟨hW, hd⟩
  | succ k ih =>
    rw [pH]
    generalize pH cart np nq a hr dr hs k = s at *
    obtain ⟨ih1, ih2⟩ := ih
    cases cart with
    | false => simp only [pStep]; exact ⟨WF_hourS ih1, ih2⟩
    | true => simp only [pStep]; exact ⟨WF_hourS (WF_cart ih1), drw_lt _⟩
def okH (hr : Nat) (n : Int32) : Bool := inR n 1 40 && decide (hr + tN n ≤ 9999)
noncomputable def s_hours (cart : Bool) (np nq : Nat) (a : SA) (hr dr : Nat) (hs : List SN) (n : Int32) : Int32 := if inR n 1 40 then (if hr + tN n ≤ 9999 then nI (bsN (hasC (pH cart np nq a hr dr hs (tN n)).1) nq) else -3) else -1
set_option maxHeartbeats 4000000 in
set_option maxRecDepth 100000 in
theorem c_X6_passHours (l : Launch) (d : Nat) (X : Nat × (Nat → Int32)) (n : Nat) {σ : Wd} {a : SA} {np nq hr dr : Nat} {hs : List SN} {im : IM} {tp : Nat → Nat} {tl : Nat} {ln sz : Nat → Nat} {it : Nat → Nat → Int64} (hC : CA σ a np nq hr dr hs im tp tl ln sz it) (hI : WI a np nq hr dr hs im tp tl ln sz) (w : Int32) (cart : Bool) : CN l yX6_passHours cX6_passHours 4 (some .int) ((d + 4)) X n [.ref 0, .int w, .int (b2 cart)] σ (fun v σ' => v = some (.int (s_hours cart np nq a hr dr hs w)) ∧ ((if okH hr w = true then CA σ' (pH cart np nq a hr dr hs (tN w)).1 np nq (pH cart np nq a hr dr hs (tN w)).2.1 (pH cart np nq a hr dr hs (tN w)).2.2.1 (pH cart np nq a hr dr hs (tN w)).2.2.2 im tp tl ln sz it else CA σ' a np nq hr dr hs im tp tl ln sz it) ∧ Eqo 0 42 σ σ')) := by
  refine CN.of (by decide) [some (.ref 0), some (.int w), some (.int (b2 cart)), none] (fun _ => Nat.le_of_ble_eq_true rfl) (fun _ => rfl) (fun cx hc => ?_)
  have hC0 := hC
  obtain ⟨c0, c1, c2, ⟨xa, xp, xq, xh, xd, c3⟩, c4, ⟨xl, c5⟩, c6, ⟨xf, xg, xT, c7⟩, ⟨yd, yc, yb, yn, ys, yl, ym, c8⟩⟩ := hC0
  obtain ⟨hW, hh, hdr, hwh, hwi, hU, hV⟩ := hI
  have hW1 := hW.1
  have hW2 := hW.2.1
  have hF : Eqo 0 42 σ σ := Eqo.rf
  refine R.iload_n (j := 1) (i := 1) hc rfl rfl dX6_passHours_0 ?_
  refine R.iconst hc ic_1 dX6_passHours_1 ?_
  refine R.bipush hc bp_40 dX6_passHours_2 ?_
  refine R.cSr hc m_X6_within lk_X6_64 dX6_passHours_4 (c_X6_within l (d + 3) X n _ _ _) rfl rfl (by omega) ⟨Nat.le_refl _, Nat.le_refl _⟩ (Nat.le_of_ble_eq_true rfl) ?_
  refine R.ifB_ne (tgt := 12) hc dX6_passHours_7 (by decide) (fun q1 => ?_) (fun q1 => ?_)
  rotate_left
  · refine R.iconst hc ic_m1 dX6_passHours_10 ?_
    have e9 : (-1) = s_hours cart np nq a hr dr hs w := by simp [s_hours, q1]
    exact R.iret hc rfl dX6_passHours_11 ⟨rfl, congrArg (fun z => some (Value.int z)) e9, by rw [if_neg (by simp [okH, q1])]; exact ⟨c0, c1, c2, ⟨_, _, _, _, _, c3⟩, c4, ⟨_, c5⟩, c6, ⟨_, _, _, c7⟩, ⟨_, _, _, _, _, _, _, c8⟩⟩, hF⟩
  obtain ⟨i1, rfl, _, g1, t1⟩ := inR_of (by decide) (by decide) q1
  refine R.aload_n (j := 0) (i := 0) hc rfl rfl dX6_passHours_12 ?_
  refine R.get hc gf_X6_10_r dX6_passHours_13 (c0) rfl ?_
  refine R.get hc gf_X6_150_r dX6_passHours_16 (c1.obj) rfl ?_
  refine R.sipush hc sp_9999 dX6_passHours_19 ?_
  refine R.iload_n (j := 1) (i := 1) hc rfl rfl dX6_passHours_22 ?_
  first | refine R.isubN hc (by omega) dX6_passHours_23 ?_ | refine R.isub hc dX6_passHours_23 ?_
  refine R.icmpN_le (tgt := 30) hc dX6_passHours_24 (by decide) (by omega) (by omega) (fun q2 => ?_) (fun q2 => ?_)
  rotate_left
  · refine R.bipush hc bp_m3 dX6_passHours_27 ?_
    have e9 : (-3) = s_hours cart np nq a hr dr hs (nI i1) := by rw [s_hours, if_pos q1, if_neg (by rw [t1]; omega)]
    exact R.iret hc rfl dX6_passHours_29 ⟨rfl, congrArg (fun z => some (Value.int z)) e9, by rw [if_neg (by simp [okH, t1]; omega)]; exact ⟨c0, c1, c2, ⟨_, _, _, _, _, c3⟩, c4, ⟨_, c5⟩, c6, ⟨_, _, _, c7⟩, ⟨_, _, _, _, _, _, _, c8⟩⟩, hF⟩
  have hok : okH hr (nI i1) = true := by simp [okH, q1, t1]; omega
  have hA : s_hours cart np nq a hr dr hs (nI i1) = nI (bsN (hasC (pH cart np nq a hr dr hs i1).1) nq) := by rw [s_hours, if_pos q1, t1, if_pos (by omega)]
  rw [hA, t1] at hc
  refine R.iconst hc ic_0 dX6_passHours_30 ?_
  refine R.istn3 hc dX6_passHours_31 (by decide) rfl ?_
  clear c0 c1 c2 c3 c4 c5 c6 c7 c8 hF
  refine rl_down (P := fun k => ∀ σ1, CA σ1 (pH cart np nq a hr dr hs k).1 np nq (pH cart np nq a hr dr hs k).2.1 (pH cart np nq a hr dr hs k).2.2.1 (pH cart np nq a hr dr hs k).2.2.2 im tp tl ln sz it → Eqo 0 42 σ σ1 → R cx 0 0 n σ1 32 [some (.ref 0), some (.int (nI i1)), some (.int (b2 cart)), some (.int (nI k))] []) i1 (fun σ hC hF => ?_) (fun k hk ih σ hC hF => ?_) 0 (Nat.zero_le _) σ hC Eqo.rf
  · have hWk := (pH_ok (cart := cart) (hr := hr) (hs := hs) hW hdr i1).1
    have hdk := (pH_ok (cart := cart) (hr := hr) (hs := hs) hW hdr i1).2
    have hhk := pH_hr cart np nq a hr dr hs i1
    obtain ⟨c0, c1, c2, ⟨xa, xp, xq, xh, xd, c3⟩, c4, ⟨xl, c5⟩, c6, ⟨xf, xg, xT, c7⟩, ⟨yd, yc, yb, yn, ys, yl, ym, c8⟩⟩ := hC
    refine R.iload_n (j := 3) (i := 3) hc rfl rfl dX6_passHours_32 ?_
    refine R.iload_n (j := 1) (i := 1) hc rfl rfl dX6_passHours_33 ?_
    refine R.icmpN_ge (tgt := 72) hc dX6_passHours_34 (by decide) (by omega) (by omega) (fun _ => ?_) (fun q => absurd (Nat.le_refl _) q)
    refine R.aload_n (j := 0) (i := 0) hc rfl rfl dX6_passHours_72 ?_
    refine R.get hc gf_X6_10_r dX6_passHours_73 (c0) rfl ?_
    refine R.cVr hc m_X4_claimants lk_X6_156 dX6_passHours_76 (c_X4_claimants l (d + 2) X n c1 hWk) (c1.obj) rfl rfl rfl (by omega) ⟨Nat.le_refl _, Nat.le_refl _⟩ (Nat.le_of_ble_eq_true rfl) ?_
    exact R.iret hc rfl dX6_passHours_79 ⟨rfl, rfl, by rw [if_pos hok]; exact ⟨c0, c1, c2, ⟨_, _, _, _, _, c3⟩, c4, ⟨_, c5⟩, c6, ⟨_, _, _, c7⟩, ⟨_, _, _, _, _, _, _, c8⟩⟩, hF⟩
  · have hWk := (pH_ok (cart := cart) (hr := hr) (hs := hs) hW hdr k).1
    have hdk := (pH_ok (cart := cart) (hr := hr) (hs := hs) hW hdr k).2
    have hhk := pH_hr cart np nq a hr dr hs k
    rw [pH] at ih
    generalize pH cart np nq a hr dr hs k = s9 at *
    obtain ⟨c0, c1, c2, ⟨xa, xp, xq, xh, xd, c3⟩, c4, ⟨xl, c5⟩, c6, ⟨xf, xg, xT, c7⟩, ⟨yd, yc, yb, yn, ys, yl, ym, c8⟩⟩ := hC
    refine R.iload_n (j := 3) (i := 3) hc rfl rfl dX6_passHours_32 ?_
    refine R.iload_n (j := 1) (i := 1) hc rfl rfl dX6_passHours_33 ?_
    refine R.icmpN_ge (tgt := 72) hc dX6_passHours_34 (by decide) (by omega) (by omega) (fun q => absurd q (by omega)) (fun _ => ?_)
    refine R.aload_n (j := 0) (i := 0) hc rfl rfl dX6_passHours_37 ?_
    refine R.get hc gf_X6_19_r dX6_passHours_38 (c0) rfl ?_
    refine R.aload_n (j := 0) (i := 0) hc rfl rfl dX6_passHours_41 ?_
    refine R.get hc gf_X6_10_r dX6_passHours_42 (c0) rfl ?_
    refine R.dVu hc m_X0_remember lk_X6_169 dX6_passHours_45 (c_X0_remember l (d + 2) X n c2 c1 hWk.1 hWk.2.1 (by omega)) (Hi.o c2) rfl rfl rfl (by omega) ⟨Nat.le_refl _, Nat.le_refl _⟩ (Nat.le_of_ble_eq_true rfl) (fun σ hX => ?_)
    obtain ⟨c2, hE⟩ := hX
    have c0 := (hE 0 (by omega)).trans c0
    have c1 := SX.ag c1 (fun j h1 h2 => hE j (by omega))
    have c3 := SX.ag c3 (fun j h1 h2 => hE j (by omega))
    have c4 := Im.ag c4 (fun j h1 h2 => hE j (by omega))
    have c5 := Tp.ag c5 (fun j h1 h2 => hE j (by omega))
    have c6 := Sh.ag c6 (fun j h1 h2 => hE j (by omega))
    have c7 := Mt.ag c7 (fun j h1 h2 => hE j (by omega))
    have c8 := Od.ag c8 (fun j h1 h2 => hE j (by omega))
    have hF : Eqo 0 42 _ σ := fun j hj => (hE j (by omega)).trans (hF j hj)
    refine R.iload_n (j := 2) (i := 2) hc rfl rfl dX6_passHours_48 ?_
    cases cart with
    | false =>
      refine R.ifB_eq (tgt := 59) hc dX6_passHours_49 (by decide) (fun _ => ?_) (fun q => absurd q (by decide))
      refine R.aload_n (j := 0) (i := 0) hc rfl rfl dX6_passHours_59 ?_
      refine R.get hc gf_X6_10_r dX6_passHours_60 (c0) rfl ?_
      refine R.cVu hc m_X4_passHour lk_X6_189 dX6_passHours_63 (c_X4_passHour l d X n c1 hWk (by omega)) (c1.obj) rfl rfl rfl (by omega) ⟨Nat.le_refl _, Nat.le_refl _⟩ (Nat.le_of_ble_eq_true rfl) (fun σ hX => ?_)
      obtain ⟨c1, hE⟩ := hX
      have c0 := (hE 0 (by omega)).trans c0
      have c2 := Hi.ag c2 (fun j h1 h2 => hE j (by omega))
      have c3 := SX.ag c3 (fun j h1 h2 => hE j (by omega))
      have c4 := Im.ag c4 (fun j h1 h2 => hE j (by omega))
      have c5 := Tp.ag c5 (fun j h1 h2 => hE j (by omega))
      have c6 := Sh.ag c6 (fun j h1 h2 => hE j (by omega))
      have c7 := Mt.ag c7 (fun j h1 h2 => hE j (by omega))
      have c8 := Od.ag c8 (fun j h1 h2 => hE j (by omega))
      have hF : Eqo 0 42 _ σ := fun j hj => (hE j (by omega)).trans (hF j hj)
      refine R.iinc3 hc dX6_passHours_66 (iiN1 _) (by decide) rfl ?_
      refine R.goto (tgt := 32) hc dX6_passHours_69 (by decide) ?_
      exact ih σ ⟨c0, c1, c2, ⟨_, _, _, _, _, c3⟩, c4, ⟨_, c5⟩, c6, ⟨_, _, _, c7⟩, ⟨_, _, _, _, _, _, _, c8⟩⟩ hF
    | true =>
      refine R.ifB_eq (tgt := 59) hc dX6_passHours_49 (by decide) (fun q => absurd q (by decide)) (fun _ => ?_)
      refine R.aload_n (j := 0) (i := 0) hc rfl rfl dX6_passHours_52 ?_
      refine R.get hc gf_X6_10_r dX6_passHours_53 (c0) rfl ?_
      refine R.cVu hc m_X4_drawCart lk_X6_270 dX6_passHours_56 (c_X4_drawCart l (d + 2) X n c1 hWk hdk) (c1.obj) rfl rfl rfl (by omega) ⟨Nat.le_refl _, Nat.le_refl _⟩ (Nat.le_of_ble_eq_true rfl) (fun σ hX => ?_)
      obtain ⟨c1, hE⟩ := hX
      have c0 := (hE 0 (by omega)).trans c0
      have c2 := Hi.ag c2 (fun j h1 h2 => hE j (by omega))
      have c3 := SX.ag c3 (fun j h1 h2 => hE j (by omega))
      have c4 := Im.ag c4 (fun j h1 h2 => hE j (by omega))
      have c5 := Tp.ag c5 (fun j h1 h2 => hE j (by omega))
      have c6 := Sh.ag c6 (fun j h1 h2 => hE j (by omega))
      have c7 := Mt.ag c7 (fun j h1 h2 => hE j (by omega))
      have c8 := Od.ag c8 (fun j h1 h2 => hE j (by omega))
      have hF : Eqo 0 42 _ σ := fun j hj => (hE j (by omega)).trans (hF j hj)
      refine R.aload_n (j := 0) (i := 0) hc rfl rfl dX6_passHours_59 ?_
      refine R.get hc gf_X6_10_r dX6_passHours_60 (c0) rfl ?_
      refine R.cVu hc m_X4_passHour lk_X6_189 dX6_passHours_63 (c_X4_passHour l d X n c1 (WF_cart hWk) (by omega)) (c1.obj) rfl rfl rfl (by omega) ⟨Nat.le_refl _, Nat.le_refl _⟩ (Nat.le_of_ble_eq_true rfl) (fun σ hX => ?_)
      obtain ⟨c1, hE⟩ := hX
      have c0 := (hE 0 (by omega)).trans c0
      have c2 := Hi.ag c2 (fun j h1 h2 => hE j (by omega))
      have c3 := SX.ag c3 (fun j h1 h2 => hE j (by omega))
      have c4 := Im.ag c4 (fun j h1 h2 => hE j (by omega))
      have c5 := Tp.ag c5 (fun j h1 h2 => hE j (by omega))
      have c6 := Sh.ag c6 (fun j h1 h2 => hE j (by omega))
      have c7 := Mt.ag c7 (fun j h1 h2 => hE j (by omega))
      have c8 := Od.ag c8 (fun j h1 h2 => hE j (by omega))
      have hF : Eqo 0 42 _ σ := fun j hj => (hE j (by omega)).trans (hF j hj)
      refine R.iinc3 hc dX6_passHours_66 (iiN1 _) (by decide) rfl ?_
      refine R.goto (tgt := 32) hc dX6_passHours_69 (by decide) ?_
      exact ih σ ⟨c0, c1, c2, ⟨_, _, _, _, _, c3⟩, c4, ⟨_, c5⟩, c6, ⟨_, _, _, c7⟩, ⟨_, _, _, _, _, _, _, c8⟩⟩ hF
set_option maxHeartbeats 4000000 in
set_option maxRecDepth 100000 in
theorem c_X6_hours (l : Launch) (d : Nat) (X : Nat × (Nat → Int32)) (n : Nat) {σ : Wd} {a : SA} {np nq hr dr : Nat} {hs : List SN} {im : IM} {tp : Nat → Nat} {tl : Nat} {ln sz : Nat → Nat} {it : Nat → Nat → Int64} (hC : CA σ a np nq hr dr hs im tp tl ln sz it) (hI : WI a np nq hr dr hs im tp tl ln sz) (w : Int32) : CN l yX6_hours cX6_hours 2 (some .int) ((d + 5)) X n [.ref 0, .int w] σ (fun v σ' => v = some (.int (s_hours false np nq a hr dr hs w)) ∧ ((if okH hr w = true then CA σ' (pH false np nq a hr dr hs (tN w)).1 np nq (pH false np nq a hr dr hs (tN w)).2.1 (pH false np nq a hr dr hs (tN w)).2.2.1 (pH false np nq a hr dr hs (tN w)).2.2.2 im tp tl ln sz it else CA σ' a np nq hr dr hs im tp tl ln sz it) ∧ Eqo 0 42 σ σ')) := by
  refine CN.of (by decide) [some (.ref 0), some (.int w)] (fun _ => Nat.le_of_ble_eq_true rfl) (fun _ => rfl) (fun cx hc => ?_)
  refine R.aload_n (j := 0) (i := 0) hc rfl rfl dX6_hours_0 ?_
  refine R.iload_n (j := 1) (i := 1) hc rfl rfl dX6_hours_1 ?_
  refine R.iconst hc ic_0 dX6_hours_2 ?_
  refine R.cVi hc m_X6_passHours lk_X6_165 dX6_hours_3 (c_X6_passHours l d X n hC hI w false) (hC.1) rfl rfl rfl (by omega) ⟨Nat.le_refl _, Nat.le_refl _⟩ (Nat.le_of_ble_eq_true rfl) (fun σ hX => ?_)
  exact R.iret hc rfl dX6_hours_6 ⟨rfl, rfl, hX⟩
set_option maxHeartbeats 4000000 in
set_option maxRecDepth 100000 in
theorem c_X6_drift (l : Launch) (d : Nat) (X : Nat × (Nat → Int32)) (n : Nat) {σ : Wd} {a : SA} {np nq hr dr : Nat} {hs : List SN} {im : IM} {tp : Nat → Nat} {tl : Nat} {ln sz : Nat → Nat} {it : Nat → Nat → Int64} (hC : CA σ a np nq hr dr hs im tp tl ln sz it) (hI : WI a np nq hr dr hs im tp tl ln sz) (w : Int32) : CN l yX6_drift cX6_drift 2 (some .int) ((d + 5)) X n [.ref 0, .int w] σ (fun v σ' => v = some (.int (s_hours true np nq a hr dr hs w)) ∧ ((if okH hr w = true then CA σ' (pH true np nq a hr dr hs (tN w)).1 np nq (pH true np nq a hr dr hs (tN w)).2.1 (pH true np nq a hr dr hs (tN w)).2.2.1 (pH true np nq a hr dr hs (tN w)).2.2.2 im tp tl ln sz it else CA σ' a np nq hr dr hs im tp tl ln sz it) ∧ Eqo 0 42 σ σ')) := by
  refine CN.of (by decide) [some (.ref 0), some (.int w)] (fun _ => Nat.le_of_ble_eq_true rfl) (fun _ => rfl) (fun cx hc => ?_)
  refine R.aload_n (j := 0) (i := 0) hc rfl rfl dX6_drift_0 ?_
  refine R.iload_n (j := 1) (i := 1) hc rfl rfl dX6_drift_1 ?_
  refine R.iconst hc ic_1 dX6_drift_2 ?_
  refine R.cVi hc m_X6_passHours lk_X6_165 dX6_drift_3 (c_X6_passHours l d X n hC hI w true) (hC.1) rfl rfl rfl (by omega) ⟨Nat.le_refl _, Nat.le_refl _⟩ (Nat.le_of_ble_eq_true rfl) (fun σ hX => ?_)
  exact R.iret hc rfl dX6_drift_6 ⟨rfl, rfl, hX⟩
set_option maxHeartbeats 4000000 in
set_option maxRecDepth 100000 in
theorem c_X6_undo (l : Launch) (d : Nat) (X : Nat × (Nat → Int32)) (n : Nat) {σ : Wd} {a : SA} {np nq hr dr : Nat} {hs : List SN} {im : IM} {tp : Nat → Nat} {tl : Nat} {ln sz : Nat → Nat} {it : Nat → Nat → Int64} (hC : CA σ a np nq hr dr hs im tp tl ln sz it) (hI : WI a np nq hr dr hs im tp tl ln sz) : CN l yX6_undo cX6_undo 1 (some .int) ((d + 2)) X n [.ref 0] σ (fun v σ' => v = some (.int (s_undo hs)) ∧ ((match hs with | [] => CA σ' a np nq hr dr hs im tp tl ln sz it | s :: t => CA σ' (backA a s.2.2) np nq s.1 s.2.1 t im tp tl ln sz it) ∧ Eqo 0 42 σ σ')) := by
  refine CN.of (by decide) [some (.ref 0)] (fun _ => Nat.le_of_ble_eq_true rfl) (fun _ => rfl) (fun cx hc => ?_)
  obtain ⟨c0, c1, c2, ⟨xa, xp, xq, xh, xd, c3⟩, c4, ⟨xl, c5⟩, c6, ⟨xf, xg, xT, c7⟩, ⟨yd, yc, yb, yn, ys, yl, ym, c8⟩⟩ := hC
  obtain ⟨hW, hh, hdr, hwh, hwi, hU, hV⟩ := hI
  have hW1 := hW.1
  have hW2 := hW.2.1
  have hF : Eqo 0 42 σ σ := Eqo.rf
  refine R.aload_n (j := 0) (i := 0) hc rfl rfl dX6_undo_0 ?_
  refine R.get hc gf_X6_19_r dX6_undo_1 (c0) rfl ?_
  refine R.aload_n (j := 0) (i := 0) hc rfl rfl dX6_undo_4 ?_
  refine R.get hc gf_X6_10_r dX6_undo_5 (c0) rfl ?_
  refine R.dVi hc m_X0_recall lk_X6_185 dX6_undo_8 (c_X0_recall l d X n c2 c1 hW1 hW2 (by omega)) (Hi.o c2) rfl rfl rfl (by omega) ⟨Nat.le_refl _, Nat.le_refl _⟩ (Nat.le_of_ble_eq_true rfl) (fun σ hX => ?_)
  cases hs with
  | nil =>
    have hX : σ = _ := hX
    rw [hX]
    refine R.ifB_eq (tgt := 24) hc dX6_undo_11 (by decide) (fun _ => ?_) (fun q => absurd q (by simp))
    refine R.bipush hc bp_m4 dX6_undo_24 ?_
    exact R.iret hc rfl dX6_undo_26 ⟨rfl, rfl, ⟨c0, c1, c2, ⟨_, _, _, _, _, c3⟩, c4, ⟨_, c5⟩, c6, ⟨_, _, _, c7⟩, ⟨_, _, _, _, _, _, _, c8⟩⟩, hF⟩
  | cons s t =>
    obtain ⟨c2, c1, hE⟩ := hX
    have hE2 : Eq2 9 2 1 8 _ σ := fun j h1 h2 => hE j ⟨h1, h2⟩
    have c0 := (hE2 0 (by omega) (by omega)).trans c0
    have c3 := SX.ag c3 (fun j h1 h2 => hE2 j (by omega) (by omega))
    have c4 := Im.ag c4 (fun j h1 h2 => hE2 j (by omega) (by omega))
    have c5 := Tp.ag c5 (fun j h1 h2 => hE2 j (by omega) (by omega))
    have c6 := Sh.ag c6 (fun j h1 h2 => hE2 j (by omega) (by omega))
    have c7 := Mt.ag c7 (fun j h1 h2 => hE2 j (by omega) (by omega))
    have c8 := Od.ag c8 (fun j h1 h2 => hE2 j (by omega) (by omega))
    have hF : Eqo 0 42 _ σ := fun j hj => (hE2 j (by omega) (by omega)).trans (hF j hj)
    refine R.ifB_eq (tgt := 24) hc dX6_undo_11 (by decide) (fun q => absurd q (by simp)) (fun _ => ?_)
    have c20 := c2
    obtain ⟨nx, pf, g1, g2, p0, p1, p5⟩ := c20
    refine R.aload_n (j := 0) (i := 0) hc rfl rfl dX6_undo_14 ?_
    refine R.get hc gf_X6_19_r dX6_undo_15 (c0) rfl ?_
    refine R.get hc gf_X6_162_r dX6_undo_18 (p0) rfl ?_
    refine R.goto (tgt := 26) hc dX6_undo_21 (by decide) ?_
    exact R.iret hc rfl dX6_undo_26 ⟨rfl, rfl, ⟨c0, c1, c2, ⟨_, _, _, _, _, c3⟩, c4, ⟨_, c5⟩, c6, ⟨_, _, _, c7⟩, ⟨_, _, _, _, _, _, _, c8⟩⟩, hF⟩
set_option maxHeartbeats 4000000 in
set_option maxRecDepth 100000 in
theorem c_X6_image (l : Launch) (d : Nat) (X : Nat × (Nat → Int32)) (n : Nat) {σ : Wd} {a : SA} {np nq hr dr : Nat} {hs : List SN} {im : IM} {tp : Nat → Nat} {tl : Nat} {ln sz : Nat → Nat} {it : Nat → Nat → Int64} (hC : CA σ a np nq hr dr hs im tp tl ln sz it) (hI : WI a np nq hr dr hs im tp tl ln sz) : CN l yX6_image cX6_image 1 (some .int) ((d + 2)) X n [.ref 0] σ (fun v σ' => v = some (.int (nI 1)) ∧ (CA σ' a np nq hr dr hs (some (a, np, nq, hr, dr, hs)) tp tl ln sz it ∧ Eqo 0 42 σ σ')) := by
  refine CN.of (by decide) [some (.ref 0)] (fun _ => Nat.le_of_ble_eq_true rfl) (fun _ => rfl) (fun cx hc => ?_)
  obtain ⟨c0, c1, c2, ⟨xa, xp, xq, xh, xd, c3⟩, c4, ⟨xl, c5⟩, c6, ⟨xf, xg, xT, c7⟩, ⟨yd, yc, yb, yn, ys, yl, ym, c8⟩⟩ := hC
  obtain ⟨hW, hh, hdr, hwh, hwi, hU, hV⟩ := hI
  have hW1 := hW.1
  have hW2 := hW.2.1
  have hF : Eqo 0 42 σ σ := Eqo.rf
  obtain ⟨⟨za, zp, zq, zh, zd, c19⟩, zs, zn, zm, c27⟩ := c4.st
  clear c4
  refine R.aload_n (j := 0) (i := 0) hc rfl rfl dX6_image_0 ?_
  refine R.get hc gf_X6_26_r dX6_image_1 (c0) rfl ?_
  refine R.aload_n (j := 0) (i := 0) hc rfl rfl dX6_image_4 ?_
  refine R.get hc gf_X6_10_r dX6_image_5 (c0) rfl ?_
  refine R.cVu hc m_X4_copyFrom lk_X6_140 dX6_image_8 (c_X4_copyFrom l d X n c19 c1 hW1 hW2 (by omega)) (c19.obj) rfl rfl rfl (by omega) ⟨Nat.le_refl _, Nat.le_refl _⟩ (Nat.le_of_ble_eq_true rfl) (fun σ hX => ?_)
  obtain ⟨c19, hE⟩ := hX
  have c0 := (hE 0 (by omega)).trans c0
  have c1 := SX.ag c1 (fun j h1 h2 => hE j (by omega))
  have c2 := Hi.ag c2 (fun j h1 h2 => hE j (by omega))
  have c3 := SX.ag c3 (fun j h1 h2 => hE j (by omega))
  have c5 := Tp.ag c5 (fun j h1 h2 => hE j (by omega))
  have c6 := Sh.ag c6 (fun j h1 h2 => hE j (by omega))
  have c7 := Mt.ag c7 (fun j h1 h2 => hE j (by omega))
  have c8 := Od.ag c8 (fun j h1 h2 => hE j (by omega))
  have c27 := Hi.ag c27 (fun j h1 h2 => hE j (by omega))
  have hF : Eqo 0 42 _ σ := fun j hj => (hE j (by omega)).trans (hF j hj)
  refine R.aload_n (j := 0) (i := 0) hc rfl rfl dX6_image_11 ?_
  refine R.get hc gf_X6_29_r dX6_image_12 (c0) rfl ?_
  refine R.aload_n (j := 0) (i := 0) hc rfl rfl dX6_image_15 ?_
  refine R.get hc gf_X6_19_r dX6_image_16 (c0) rfl ?_
  refine R.dVu hc m_X0_copyFrom lk_X6_226 dX6_image_19 (c_X0_copyFrom l d X n c27 c2 hW1 hW2 (by omega)) (Hi.o c27) rfl rfl rfl (by omega) ⟨Nat.le_refl _, Nat.le_refl _⟩ (Nat.le_of_ble_eq_true rfl) (fun σ hX => ?_)
  obtain ⟨c27, hE⟩ := hX
  have c0 := (hE 0 (by omega)).trans c0
  have c1 := SX.ag c1 (fun j h1 h2 => hE j (by omega))
  have c2 := Hi.ag c2 (fun j h1 h2 => hE j (by omega))
  have c3 := SX.ag c3 (fun j h1 h2 => hE j (by omega))
  have c5 := Tp.ag c5 (fun j h1 h2 => hE j (by omega))
  have c6 := Sh.ag c6 (fun j h1 h2 => hE j (by omega))
  have c7 := Mt.ag c7 (fun j h1 h2 => hE j (by omega))
  have c8 := Od.ag c8 (fun j h1 h2 => hE j (by omega))
  have c19 := SX.ag c19 (fun j h1 h2 => hE j (by omega))
  have hF : Eqo 0 42 _ σ := fun j hj => (hE j (by omega)).trans (hF j hj)
  refine R.aload_n (j := 0) (i := 0) hc rfl rfl dX6_image_22 ?_
  refine R.iconst hc ic_1 dX6_image_23 ?_
  refine R.putG hc gf_X6_32 dX6_image_24 (c0) (Nat.le_of_ble_eq_true rfl) (fun _ => rfl) (fun _ => rfl) (fun σ hX hE => ?_)
  have c1 := SX.ag c1 (fun j h1 h2 => hE j (by omega))
  have c2 := Hi.ag c2 (fun j h1 h2 => hE j (by omega))
  have c3 := SX.ag c3 (fun j h1 h2 => hE j (by omega))
  have c5 := Tp.ag c5 (fun j h1 h2 => hE j (by omega))
  have c6 := Sh.ag c6 (fun j h1 h2 => hE j (by omega))
  have c7 := Mt.ag c7 (fun j h1 h2 => hE j (by omega))
  have c8 := Od.ag c8 (fun j h1 h2 => hE j (by omega))
  have c19 := SX.ag c19 (fun j h1 h2 => hE j (by omega))
  have c27 := Hi.ag c27 (fun j h1 h2 => hE j (by omega))
  have hF : Eqo 0 42 _ σ := fun j hj => (hE j (by omega)).trans (hF j hj)
  have c0 := hX
  refine R.iconst hc ic_1 dX6_image_27 ?_
  exact R.iret hc rfl dX6_image_28 ⟨rfl, rfl, ⟨c0, c1, c2, ⟨_, _, _, _, _, c3⟩, ⟨c19, c27⟩, ⟨_, c5⟩, c6, ⟨_, _, _, c7⟩, ⟨_, _, _, _, _, _, _, c8⟩⟩, hF⟩
set_option maxHeartbeats 4000000 in
set_option maxRecDepth 100000 in
theorem c_X6_restore (l : Launch) (d : Nat) (X : Nat × (Nat → Int32)) (n : Nat) {σ : Wd} {a : SA} {np nq hr dr : Nat} {hs : List SN} {im : IM} {tp : Nat → Nat} {tl : Nat} {ln sz : Nat → Nat} {it : Nat → Nat → Int64} (hC : CA σ a np nq hr dr hs im tp tl ln sz it) (hI : WI a np nq hr dr hs im tp tl ln sz) : CN l yX6_restore cX6_restore 1 (some .int) ((d + 2)) X n [.ref 0] σ (fun v σ' => v = some (.int (s_restore im)) ∧ ((match im with | none => CA σ' a np nq hr dr hs im tp tl ln sz it | some q => CA σ' q.1 q.2.1 q.2.2.1 q.2.2.2.1 q.2.2.2.2.1 q.2.2.2.2.2 im tp tl ln sz it) ∧ Eqo 0 42 σ σ')) := by
  refine CN.of (by decide) [some (.ref 0)] (fun _ => Nat.le_of_ble_eq_true rfl) (fun _ => rfl) (fun cx hc => ?_)
  obtain ⟨c0, c1, c2, ⟨xa, xp, xq, xh, xd, c3⟩, c4, ⟨xl, c5⟩, c6, ⟨xf, xg, xT, c7⟩, ⟨yd, yc, yb, yn, ys, yl, ym, c8⟩⟩ := hC
  obtain ⟨hW, hh, hdr, hwh, hwi, hU, hV⟩ := hI
  have hW1 := hW.1
  have hW2 := hW.2.1
  have hF : Eqo 0 42 σ σ := Eqo.rf
  refine R.aload_n (j := 0) (i := 0) hc rfl rfl dX6_restore_0 ?_
  refine R.get hc gf_X6_32_r dX6_restore_1 (c0) rfl ?_
  cases im with
  | none =>
    refine R.ifB_ne (c := false) (tgt := 10) hc dX6_restore_4 (by decide) (fun q => absurd q (by decide)) (fun _ => ?_)
    refine R.bipush hc bp_m4 dX6_restore_7 ?_
    exact R.iret hc rfl dX6_restore_9 ⟨rfl, rfl, ⟨c0, c1, c2, ⟨_, _, _, _, _, c3⟩, c4, ⟨_, c5⟩, c6, ⟨_, _, _, c7⟩, ⟨_, _, _, _, _, _, _, c8⟩⟩, hF⟩
  | some q =>
    obtain ⟨c19, c27⟩ := c4
    have hwi := hwi q rfl
    refine R.ifB_ne (c := true) (tgt := 10) hc dX6_restore_4 (by decide) (fun _ => ?_) (fun q => absurd q (by decide))
    refine R.aload_n (j := 0) (i := 0) hc rfl rfl dX6_restore_10 ?_
    refine R.get hc gf_X6_10_r dX6_restore_11 (c0) rfl ?_
    refine R.aload_n (j := 0) (i := 0) hc rfl rfl dX6_restore_14 ?_
    refine R.get hc gf_X6_26_r dX6_restore_15 (c0) rfl ?_
    refine R.cVu hc m_X4_copyFrom lk_X6_140 dX6_restore_18 (c_X4_copyFrom l d X n c1 c19 hwi.1.1 hwi.1.2.1 (by omega)) (c1.obj) rfl rfl rfl (by omega) ⟨Nat.le_refl _, Nat.le_refl _⟩ (Nat.le_of_ble_eq_true rfl) (fun σ hX => ?_)
    obtain ⟨c1, hE⟩ := hX
    have c0 := (hE 0 (by omega)).trans c0
    have c2 := Hi.ag c2 (fun j h1 h2 => hE j (by omega))
    have c3 := SX.ag c3 (fun j h1 h2 => hE j (by omega))
    have c5 := Tp.ag c5 (fun j h1 h2 => hE j (by omega))
    have c6 := Sh.ag c6 (fun j h1 h2 => hE j (by omega))
    have c7 := Mt.ag c7 (fun j h1 h2 => hE j (by omega))
    have c8 := Od.ag c8 (fun j h1 h2 => hE j (by omega))
    have c19 := SX.ag c19 (fun j h1 h2 => hE j (by omega))
    have c27 := Hi.ag c27 (fun j h1 h2 => hE j (by omega))
    have hF : Eqo 0 42 _ σ := fun j hj => (hE j (by omega)).trans (hF j hj)
    refine R.aload_n (j := 0) (i := 0) hc rfl rfl dX6_restore_21 ?_
    refine R.get hc gf_X6_19_r dX6_restore_22 (c0) rfl ?_
    refine R.aload_n (j := 0) (i := 0) hc rfl rfl dX6_restore_25 ?_
    refine R.get hc gf_X6_29_r dX6_restore_26 (c0) rfl ?_
    refine R.dVu hc m_X0_copyFrom lk_X6_226 dX6_restore_29 (c_X0_copyFrom l d X n c2 c27 hwi.1.1 hwi.1.2.1 (by omega)) (Hi.o c2) rfl rfl rfl (by omega) ⟨Nat.le_refl _, Nat.le_refl _⟩ (Nat.le_of_ble_eq_true rfl) (fun σ hX => ?_)
    obtain ⟨c2, hE⟩ := hX
    have c0 := (hE 0 (by omega)).trans c0
    have c1 := SX.ag c1 (fun j h1 h2 => hE j (by omega))
    have c3 := SX.ag c3 (fun j h1 h2 => hE j (by omega))
    have c5 := Tp.ag c5 (fun j h1 h2 => hE j (by omega))
    have c6 := Sh.ag c6 (fun j h1 h2 => hE j (by omega))
    have c7 := Mt.ag c7 (fun j h1 h2 => hE j (by omega))
    have c8 := Od.ag c8 (fun j h1 h2 => hE j (by omega))
    have c19 := SX.ag c19 (fun j h1 h2 => hE j (by omega))
    have c27 := Hi.ag c27 (fun j h1 h2 => hE j (by omega))
    have hF : Eqo 0 42 _ σ := fun j hj => (hE j (by omega)).trans (hF j hj)
    refine R.iconst hc ic_1 dX6_restore_32 ?_
    exact R.iret hc rfl dX6_restore_33 ⟨rfl, rfl, ⟨c0, c1, c2, ⟨_, _, _, _, _, c3⟩, ⟨c19, c27⟩, ⟨_, c5⟩, c6, ⟨_, _, _, c7⟩, ⟨_, _, _, _, _, _, _, c8⟩⟩, hF⟩
set_option maxHeartbeats 4000000 in
set_option maxRecDepth 100000 in
theorem c_X6_read (l : Launch) (d : Nat) (X : Nat × (Nat → Int32)) (n : Nat) {σ : Wd} {a : SA} {np nq hr dr : Nat} {hs : List SN} {im : IM} {tp : Nat → Nat} {tl : Nat} {ln sz : Nat → Nat} {it : Nat → Nat → Int64} (hC : CA σ a np nq hr dr hs im tp tl ln sz it) (hI : WI a np nq hr dr hs im tp tl ln sz) : CN l yX6_read cX6_read 2 (some .int) ((d + 7)) X n [.ref 0] σ (fun v σ' => v = some (.int (s_read tp tl)) ∧ ((match readP tp tl with | .inl _ => CA σ' a np nq hr dr hs im tp 0 ln sz it | .inr q => CA σ' q.1 q.2.1 q.2.2 0 dr [] im tp 0 ln sz it) ∧ Eqo 0 42 σ σ')) := by
  refine CN.of (by decide) [some (.ref 0), none] (fun _ => Nat.le_of_ble_eq_true rfl) (fun _ => rfl) (fun cx hc => ?_)
  obtain ⟨c0, c1, c2, ⟨xa, xp, xq, xh, xd, c3⟩, c4, ⟨xl, c5⟩, c6, ⟨xf, xg, xT, c7⟩, ⟨yd, yc, yb, yn, ys, yl, ym, c8⟩⟩ := hC
  obtain ⟨hW, hh, hdr, hwh, hwi, hU, hV⟩ := hI
  have hW1 := hW.1
  have hW2 := hW.2.1
  have hF : Eqo 0 42 σ σ := Eqo.rf
  refine R.aload_n (j := 0) (i := 0) hc rfl rfl dX6_read_0 ?_
  refine R.get hc gf_X6_39_r dX6_read_1 (c0) rfl ?_
  refine R.aload_n (j := 0) (i := 0) hc rfl rfl dX6_read_4 ?_
  refine R.get hc gf_X6_23_r dX6_read_5 (c0) rfl ?_
  refine R.cVi hc m_X5_parse lk_X6_132 dX6_read_8 (c_X5_parse l d X n c5 hU c3 (by omega)) (c5.1) rfl rfl rfl (by omega) ⟨Nat.le_refl _, Nat.le_refl _⟩ (Nat.le_of_ble_eq_true rfl) (fun σ hX => ?_)
  obtain ⟨hE, ⟨xl, c5⟩, hm⟩ := hX
  have c0 := (hE 0 (by omega) (by omega)).trans c0
  have c1 := SX.ag c1 (fun j h1 h2 => hE j (by omega) (by omega))
  have c2 := Hi.ag c2 (fun j h1 h2 => hE j (by omega) (by omega))
  have c4 := Im.ag c4 (fun j h1 h2 => hE j (by omega) (by omega))
  have c6 := Sh.ag c6 (fun j h1 h2 => hE j (by omega) (by omega))
  have c7 := Mt.ag c7 (fun j h1 h2 => hE j (by omega) (by omega))
  have c8 := Od.ag c8 (fun j h1 h2 => hE j (by omega) (by omega))
  have hF : Eqo 0 42 _ σ := fun j hj => (hE j (by omega) (by omega)).trans (hF j hj)
  cases hr9 : readP tp tl with
  | inl f =>
    have hf : f ≤ 1000 := by have := readP_bad hr9; have := hU.1; omega
    simp only [hr9] at hc
    have hA : s_read tp tl = fI f := by simp only [s_read, hr9]
    rw [hA] at hc
    rw [hr9] at hm
    obtain ⟨da, dp, dq, _, _, c3⟩ := hm
    simp only [res2]
    refine R.istn1 hc dX6_read_11 (by decide) rfl ?_
    refine R.iload_n (j := 1) (i := 1) hc rfl rfl dX6_read_12 ?_
    refine R.if_eq (tgt := 18) hc dX6_read_13 (by decide) (fun q => absurd q (fI_ne hf)) (fun _ => ?_)
    refine R.iload_n (j := 1) (i := 1) hc rfl rfl dX6_read_16 ?_
    exact R.iret hc rfl dX6_read_17 ⟨rfl, rfl, ⟨c0, c1, c2, ⟨_, _, _, _, _, c3⟩, c4, ⟨_, c5⟩, c6, ⟨_, _, _, c7⟩, ⟨_, _, _, _, _, _, _, c8⟩⟩, hF⟩
  | inr q =>
    simp only [hr9] at hc
    have hA : s_read tp tl = nI q.2.1 := by simp only [s_read, hr9]
    rw [hA] at hc
    rw [hr9] at hm
    obtain ⟨r1, r2, c3⟩ := hm
    simp only [res2]
    refine R.istn1 hc dX6_read_11 (by decide) rfl ?_
    refine R.iload_n (j := 1) (i := 1) hc rfl rfl dX6_read_12 ?_
    refine R.ifN_eq (tgt := 18) hc dX6_read_13 (by decide) (by decide) (fun _ => ?_) (fun q => absurd rfl q)
    refine R.aload_n (j := 0) (i := 0) hc rfl rfl dX6_read_18 ?_
    refine R.get hc gf_X6_23_r dX6_read_19 (c0) rfl ?_
    refine R.aload_n (j := 0) (i := 0) hc rfl rfl dX6_read_22 ?_
    refine R.get hc gf_X6_10_r dX6_read_23 (c0) rfl ?_
    refine R.get hc gf_X6_136_r dX6_read_26 (c1.obj) rfl ?_
    refine R.putW hc gf_X6_136 dX6_read_29 (c3.p10 _) (fun _ => rfl) (fun _ => rfl) (fun σ hX => ?_)
    obtain ⟨c3, hE⟩ := hX
    have c0 := (hE 0 (by omega)).trans c0
    have c1 := SX.ag c1 (fun j h1 h2 => hE j (by omega))
    have c2 := Hi.ag c2 (fun j h1 h2 => hE j (by omega))
    have c4 := Im.ag c4 (fun j h1 h2 => hE j (by omega))
    have c5 := Tp.ag c5 (fun j h1 h2 => hE j (by omega))
    have c6 := Sh.ag c6 (fun j h1 h2 => hE j (by omega))
    have c7 := Mt.ag c7 (fun j h1 h2 => hE j (by omega))
    have c8 := Od.ag c8 (fun j h1 h2 => hE j (by omega))
    have hF : Eqo 0 42 _ σ := fun j hj => (hE j (by omega)).trans (hF j hj)
    refine R.aload_n (j := 0) (i := 0) hc rfl rfl dX6_read_32 ?_
    refine R.get hc gf_X6_10_r dX6_read_33 (c0) rfl ?_
    refine R.aload_n (j := 0) (i := 0) hc rfl rfl dX6_read_36 ?_
    refine R.get hc gf_X6_23_r dX6_read_37 (c0) rfl ?_
    refine R.cVu hc m_X4_copyFrom lk_X6_140 dX6_read_40 (c_X4_copyFrom l (d + 5) X n c1 c3 r1 r2 (by omega)) (c1.obj) rfl rfl rfl (by omega) ⟨Nat.le_refl _, Nat.le_refl _⟩ (Nat.le_of_ble_eq_true rfl) (fun σ hX => ?_)
    obtain ⟨c1, hE⟩ := hX
    have c0 := (hE 0 (by omega)).trans c0
    have c2 := Hi.ag c2 (fun j h1 h2 => hE j (by omega))
    have c3 := SX.ag c3 (fun j h1 h2 => hE j (by omega))
    have c4 := Im.ag c4 (fun j h1 h2 => hE j (by omega))
    have c5 := Tp.ag c5 (fun j h1 h2 => hE j (by omega))
    have c6 := Sh.ag c6 (fun j h1 h2 => hE j (by omega))
    have c7 := Mt.ag c7 (fun j h1 h2 => hE j (by omega))
    have c8 := Od.ag c8 (fun j h1 h2 => hE j (by omega))
    have hF : Eqo 0 42 _ σ := fun j hj => (hE j (by omega)).trans (hF j hj)
    refine R.aload_n (j := 0) (i := 0) hc rfl rfl dX6_read_43 ?_
    refine R.get hc gf_X6_19_r dX6_read_44 (c0) rfl ?_
    refine R.dVu hc m_X0_forget lk_X6_76 dX6_read_47 (c_X0_forget l (d + 6) X n c2 q.2.1 q.2.2) (Hi.o c2) rfl rfl rfl (by omega) ⟨Nat.le_refl _, Nat.le_refl _⟩ (Nat.le_of_ble_eq_true rfl) (fun σ hX => ?_)
    obtain ⟨c2, hE⟩ := hX
    have c0 := (hE 0 (by omega)).trans c0
    have c1 := SX.ag c1 (fun j h1 h2 => hE j (by omega))
    have c3 := SX.ag c3 (fun j h1 h2 => hE j (by omega))
    have c4 := Im.ag c4 (fun j h1 h2 => hE j (by omega))
    have c5 := Tp.ag c5 (fun j h1 h2 => hE j (by omega))
    have c6 := Sh.ag c6 (fun j h1 h2 => hE j (by omega))
    have c7 := Mt.ag c7 (fun j h1 h2 => hE j (by omega))
    have c8 := Od.ag c8 (fun j h1 h2 => hE j (by omega))
    have hF : Eqo 0 42 _ σ := fun j hj => (hE j (by omega)).trans (hF j hj)
    refine R.aload_n (j := 0) (i := 0) hc rfl rfl dX6_read_50 ?_
    refine R.get hc gf_X6_10_r dX6_read_51 (c0) rfl ?_
    refine R.get hc gf_X6_144_r dX6_read_54 (c1.obj) rfl ?_
    exact R.iret hc rfl dX6_read_57 ⟨rfl, rfl, ⟨c0, c1, c2, ⟨_, _, _, _, _, c3⟩, c4, ⟨_, c5⟩, c6, ⟨_, _, _, c7⟩, ⟨_, _, _, _, _, _, _, c8⟩⟩, hF⟩
