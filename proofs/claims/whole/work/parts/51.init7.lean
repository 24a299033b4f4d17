set_option maxHeartbeats 4000000 in
set_option maxRecDepth 100000 in
theorem c_X7_init (l : Launch) (d : Nat) (X : Nat × (Nat → Int32)) {σ : Wd} (hO : σ 42 = some (.inr (7, fdX7))) : CI l yX7_init cX7_init 2 (d + 1) 16 893 X 43 42 σ 59 (fun σ' => RA σ' (fun _ _ => 0) 0 0 0 1 [] none (fun _ => 0) 0 (fun _ => 0) (fun _ => 0) (fun _ _ => 0) ∧ Eqo 42 17 σ σ') := by
  refine Con.of (by decide) [some (.ref 42), none] (fun _ => Nat.le_of_ble_eq_true rfl) (fun _ => rfl) (fun cx hc => ?_)
  obtain ⟨σ0, hσ0⟩ : ∃ z, z = σ := ⟨_, rfl⟩
  rw [← hσ0] at hc
  have hF : Eqo 42 17 σ0 σ := by rw [hσ0]; exact Eqo.rf
  refine R.aload_n (j := 0) (i := 0) hc rfl rfl dX7_init_0 ?_
  refine R.objInit hc lk_X7_1 (by omega) (Nat.le_of_ble_eq_true rfl) dX7_init_1 ?_
  refine R.aload_n (j := 0) (i := 0) hc rfl rfl dX7_init_4 ?_
  refine R.bipush hc bp_49 dX7_init_5 ?_
  refine R.nwI (n := 43) hc dX7_init_7 (Nat.le_of_ble_eq_true rfl) ⟨Nat.le_of_ble_eq_true rfl, Nat.le_of_ble_eq_true rfl⟩ rfl (by omega) (fun σ hX hE => ?_)
  have hO := (hE 42 (by omega)).trans hO
  have hF := hF.tr (hE.wid (by omega))
  have a43 := hX
  refine R.putFG hc rfl gf_X7_7 dX7_init_9 hO (Nat.le_of_ble_eq_true rfl) (fun _ => rfl) (fun _ => rfl) (fun σ hX hE => ?_)
  have hO : σ 42 = some (.inr (7, [.ref 43, .null, .null, .int 0, .int 0, .int 0, .null, .null, .null, .int 0, .null, .null, .null, .null, .null, .null, .int 0, .int 0, .null, .null, .null, .null])) := hX
  have a43 := (hE 43 (by omega)).trans a43
  have hF := hF.tr (hE.wid (by omega))
  refine R.aload_n (j := 0) (i := 0) hc rfl rfl dX7_init_12 ?_
  refine R.bipush hc bp_7 dX7_init_13 ?_
  refine R.nwI (n := 44) hc dX7_init_15 (Nat.le_of_ble_eq_true rfl) ⟨Nat.le_of_ble_eq_true rfl, Nat.le_of_ble_eq_true rfl⟩ rfl (by omega) (fun σ hX hE => ?_)
  have hO := (hE 42 (by omega)).trans hO
  have a43 := (hE 43 (by omega)).trans a43
  have hF := hF.tr (hE.wid (by omega))
  have a44 := hX
  refine R.putFG hc rfl gf_X7_13 dX7_init_17 hO (Nat.le_of_ble_eq_true rfl) (fun _ => rfl) (fun _ => rfl) (fun σ hX hE => ?_)
  have hO : σ 42 = some (.inr (7, [.ref 43, .ref 44, .null, .int 0, .int 0, .int 0, .null, .null, .null, .int 0, .null, .null, .null, .null, .null, .null, .int 0, .int 0, .null, .null, .null, .null])) := hX
  have a43 := (hE 43 (by omega)).trans a43
  have a44 := (hE 44 (by omega)).trans a44
  have hF := hF.tr (hE.wid (by omega))
  refine R.aload_n (j := 0) (i := 0) hc rfl rfl dX7_init_20 ?_
  refine R.bipush hc bp_90 dX7_init_21 ?_
  refine R.nwI (n := 45) hc dX7_init_23 (Nat.le_of_ble_eq_true rfl) ⟨Nat.le_of_ble_eq_true rfl, Nat.le_of_ble_eq_true rfl⟩ rfl (by omega) (fun σ hX hE => ?_)
  have hO := (hE 42 (by omega)).trans hO
  have a43 := (hE 43 (by omega)).trans a43
  have a44 := (hE 44 (by omega)).trans a44
  have hF := hF.tr (hE.wid (by omega))
  have a45 := hX
  refine R.putFG hc rfl gf_X7_16 dX7_init_25 hO (Nat.le_of_ble_eq_true rfl) (fun _ => rfl) (fun _ => rfl) (fun σ hX hE => ?_)
  have hO : σ 42 = some (.inr (7, [.ref 43, .ref 44, .ref 45, .int 0, .int 0, .int 0, .null, .null, .null, .int 0, .null, .null, .null, .null, .null, .null, .int 0, .int 0, .null, .null, .null, .null])) := hX
  have a43 := (hE 43 (by omega)).trans a43
  have a44 := (hE 44 (by omega)).trans a44
  have a45 := (hE 45 (by omega)).trans a45
  have hF := hF.tr (hE.wid (by omega))
  refine R.aload_n (j := 0) (i := 0) hc rfl rfl dX7_init_28 ?_
  refine R.bipush hc bp_21 dX7_init_29 ?_
  refine R.nwI (n := 46) hc dX7_init_31 (Nat.le_of_ble_eq_true rfl) ⟨Nat.le_of_ble_eq_true rfl, Nat.le_of_ble_eq_true rfl⟩ rfl (by omega) (fun σ hX hE => ?_)
  have hO := (hE 42 (by omega)).trans hO
  have a43 := (hE 43 (by omega)).trans a43
  have a44 := (hE 44 (by omega)).trans a44
  have a45 := (hE 45 (by omega)).trans a45
  have hF := hF.tr (hE.wid (by omega))
  have a46 := hX
  refine R.putFG hc rfl gf_X7_19 dX7_init_33 hO (Nat.le_of_ble_eq_true rfl) (fun _ => rfl) (fun _ => rfl) (fun σ hX hE => ?_)
  have hO : σ 42 = some (.inr (7, [.ref 43, .ref 44, .ref 45, .int 0, .int 0, .int 0, .ref 46, .null, .null, .int 0, .null, .null, .null, .null, .null, .null, .int 0, .int 0, .null, .null, .null, .null])) := hX
  have a43 := (hE 43 (by omega)).trans a43
  have a44 := (hE 44 (by omega)).trans a44
  have a45 := (hE 45 (by omega)).trans a45
  have a46 := (hE 46 (by omega)).trans a46
  have hF := hF.tr (hE.wid (by omega))
  refine R.aload_n (j := 0) (i := 0) hc rfl rfl dX7_init_36 ?_
  refine R.bipush hc bp_18 dX7_init_37 ?_
  refine R.nwI (n := 47) hc dX7_init_39 (Nat.le_of_ble_eq_true rfl) ⟨Nat.le_of_ble_eq_true rfl, Nat.le_of_ble_eq_true rfl⟩ rfl (by omega) (fun σ hX hE => ?_)
  have hO := (hE 42 (by omega)).trans hO
  have a43 := (hE 43 (by omega)).trans a43
  have a44 := (hE 44 (by omega)).trans a44
  have a45 := (hE 45 (by omega)).trans a45
  have a46 := (hE 46 (by omega)).trans a46
  have hF := hF.tr (hE.wid (by omega))
  have a47 := hX
  refine R.putFG hc rfl gf_X7_22 dX7_init_41 hO (Nat.le_of_ble_eq_true rfl) (fun _ => rfl) (fun _ => rfl) (fun σ hX hE => ?_)
  have hO : σ 42 = some (.inr (7, [.ref 43, .ref 44, .ref 45, .int 0, .int 0, .int 0, .ref 46, .ref 47, .null, .int 0, .null, .null, .null, .null, .null, .null, .int 0, .int 0, .null, .null, .null, .null])) := hX
  have a43 := (hE 43 (by omega)).trans a43
  have a44 := (hE 44 (by omega)).trans a44
  have a45 := (hE 45 (by omega)).trans a45
  have a46 := (hE 46 (by omega)).trans a46
  have a47 := (hE 47 (by omega)).trans a47
  have hF := hF.tr (hE.wid (by omega))
  refine R.aload_n (j := 0) (i := 0) hc rfl rfl dX7_init_44 ?_
  refine R.sipush hc sp_168 dX7_init_45 ?_
  refine R.nwI (n := 48) hc dX7_init_48 (Nat.le_of_ble_eq_true rfl) ⟨Nat.le_of_ble_eq_true rfl, Nat.le_of_ble_eq_true rfl⟩ rfl (by omega) (fun σ hX hE => ?_)
  have hO := (hE 42 (by omega)).trans hO
  have a43 := (hE 43 (by omega)).trans a43
  have a44 := (hE 44 (by omega)).trans a44
  have a45 := (hE 45 (by omega)).trans a45
  have a46 := (hE 46 (by omega)).trans a46
  have a47 := (hE 47 (by omega)).trans a47
  have hF := hF.tr (hE.wid (by omega))
  have a48 := hX
  refine R.putFG hc rfl gf_X7_25 dX7_init_50 hO (Nat.le_of_ble_eq_true rfl) (fun _ => rfl) (fun _ => rfl) (fun σ hX hE => ?_)
  have hO : σ 42 = some (.inr (7, [.ref 43, .ref 44, .ref 45, .int 0, .int 0, .int 0, .ref 46, .ref 47, .ref 48, .int 0, .null, .null, .null, .null, .null, .null, .int 0, .int 0, .null, .null, .null, .null])) := hX
  have a43 := (hE 43 (by omega)).trans a43
  have a44 := (hE 44 (by omega)).trans a44
  have a45 := (hE 45 (by omega)).trans a45
  have a46 := (hE 46 (by omega)).trans a46
  have a47 := (hE 47 (by omega)).trans a47
  have a48 := (hE 48 (by omega)).trans a48
  have hF := hF.tr (hE.wid (by omega))
  refine R.aload_n (j := 0) (i := 0) hc rfl rfl dX7_init_53 ?_
  refine R.bipush hc bp_49 dX7_init_54 ?_
  refine R.nwI (n := 49) hc dX7_init_56 (Nat.le_of_ble_eq_true rfl) ⟨Nat.le_of_ble_eq_true rfl, Nat.le_of_ble_eq_true rfl⟩ rfl (by omega) (fun σ hX hE => ?_)
  have hO := (hE 42 (by omega)).trans hO
  have a43 := (hE 43 (by omega)).trans a43
  have a44 := (hE 44 (by omega)).trans a44
  have a45 := (hE 45 (by omega)).trans a45
  have a46 := (hE 46 (by omega)).trans a46
  have a47 := (hE 47 (by omega)).trans a47
  have a48 := (hE 48 (by omega)).trans a48
  have hF := hF.tr (hE.wid (by omega))
  have a49 := hX
  refine R.putFG hc rfl gf_X7_28 dX7_init_58 hO (Nat.le_of_ble_eq_true rfl) (fun _ => rfl) (fun _ => rfl) (fun σ hX hE => ?_)
  have hO : σ 42 = some (.inr (7, [.ref 43, .ref 44, .ref 45, .int 0, .int 0, .int 0, .ref 46, .ref 47, .ref 48, .int 0, .ref 49, .null, .null, .null, .null, .null, .int 0, .int 0, .null, .null, .null, .null])) := hX
  have a43 := (hE 43 (by omega)).trans a43
  have a44 := (hE 44 (by omega)).trans a44
  have a45 := (hE 45 (by omega)).trans a45
  have a46 := (hE 46 (by omega)).trans a46
  have a47 := (hE 47 (by omega)).trans a47
  have a48 := (hE 48 (by omega)).trans a48
  have a49 := (hE 49 (by omega)).trans a49
  have hF := hF.tr (hE.wid (by omega))
  refine R.aload_n (j := 0) (i := 0) hc rfl rfl dX7_init_61 ?_
  refine R.sipush hc sp_128 dX7_init_62 ?_
  refine R.nwI (n := 50) hc dX7_init_65 (Nat.le_of_ble_eq_true rfl) ⟨Nat.le_of_ble_eq_true rfl, Nat.le_of_ble_eq_true rfl⟩ rfl (by omega) (fun σ hX hE => ?_)
  have hO := (hE 42 (by omega)).trans hO
  have a43 := (hE 43 (by omega)).trans a43
  have a44 := (hE 44 (by omega)).trans a44
  have a45 := (hE 45 (by omega)).trans a45
  have a46 := (hE 46 (by omega)).trans a46
  have a47 := (hE 47 (by omega)).trans a47
  have a48 := (hE 48 (by omega)).trans a48
  have a49 := (hE 49 (by omega)).trans a49
  have hF := hF.tr (hE.wid (by omega))
  have a50 := hX
  refine R.putFG hc rfl gf_X7_31 dX7_init_67 hO (Nat.le_of_ble_eq_true rfl) (fun _ => rfl) (fun _ => rfl) (fun σ hX hE => ?_)
  have hO : σ 42 = some (.inr (7, [.ref 43, .ref 44, .ref 45, .int 0, .int 0, .int 0, .ref 46, .ref 47, .ref 48, .int 0, .ref 49, .ref 50, .null, .null, .null, .null, .int 0, .int 0, .null, .null, .null, .null])) := hX
  have a43 := (hE 43 (by omega)).trans a43
  have a44 := (hE 44 (by omega)).trans a44
  have a45 := (hE 45 (by omega)).trans a45
  have a46 := (hE 46 (by omega)).trans a46
  have a47 := (hE 47 (by omega)).trans a47
  have a48 := (hE 48 (by omega)).trans a48
  have a49 := (hE 49 (by omega)).trans a49
  have a50 := (hE 50 (by omega)).trans a50
  have hF := hF.tr (hE.wid (by omega))
  refine R.aload_n (j := 0) (i := 0) hc rfl rfl dX7_init_70 ?_
  refine R.bipush hc bp_6 dX7_init_71 ?_
  refine R.nwI (n := 51) hc dX7_init_73 (Nat.le_of_ble_eq_true rfl) ⟨Nat.le_of_ble_eq_true rfl, Nat.le_of_ble_eq_true rfl⟩ rfl (by omega) (fun σ hX hE => ?_)
  have hO := (hE 42 (by omega)).trans hO
  have a43 := (hE 43 (by omega)).trans a43
  have a44 := (hE 44 (by omega)).trans a44
  have a45 := (hE 45 (by omega)).trans a45
  have a46 := (hE 46 (by omega)).trans a46
  have a47 := (hE 47 (by omega)).trans a47
  have a48 := (hE 48 (by omega)).trans a48
  have a49 := (hE 49 (by omega)).trans a49
  have a50 := (hE 50 (by omega)).trans a50
  have hF := hF.tr (hE.wid (by omega))
  have a51 := hX
  refine R.putFG hc rfl gf_X7_34 dX7_init_75 hO (Nat.le_of_ble_eq_true rfl) (fun _ => rfl) (fun _ => rfl) (fun σ hX hE => ?_)
  have hO : σ 42 = some (.inr (7, [.ref 43, .ref 44, .ref 45, .int 0, .int 0, .int 0, .ref 46, .ref 47, .ref 48, .int 0, .ref 49, .ref 50, .ref 51, .null, .null, .null, .int 0, .int 0, .null, .null, .null, .null])) := hX
  have a43 := (hE 43 (by omega)).trans a43
  have a44 := (hE 44 (by omega)).trans a44
  have a45 := (hE 45 (by omega)).trans a45
  have a46 := (hE 46 (by omega)).trans a46
  have a47 := (hE 47 (by omega)).trans a47
  have a48 := (hE 48 (by omega)).trans a48
  have a49 := (hE 49 (by omega)).trans a49
  have a50 := (hE 50 (by omega)).trans a50
  have a51 := (hE 51 (by omega)).trans a51
  have hF := hF.tr (hE.wid (by omega))
  refine R.aload_n (j := 0) (i := 0) hc rfl rfl dX7_init_78 ?_
  refine R.bipush hc bp_6 dX7_init_79 ?_
  refine R.nwI (n := 52) hc dX7_init_81 (Nat.le_of_ble_eq_true rfl) ⟨Nat.le_of_ble_eq_true rfl, Nat.le_of_ble_eq_true rfl⟩ rfl (by omega) (fun σ hX hE => ?_)
  have hO := (hE 42 (by omega)).trans hO
  have a43 := (hE 43 (by omega)).trans a43
  have a44 := (hE 44 (by omega)).trans a44
  have a45 := (hE 45 (by omega)).trans a45
  have a46 := (hE 46 (by omega)).trans a46
  have a47 := (hE 47 (by omega)).trans a47
  have a48 := (hE 48 (by omega)).trans a48
  have a49 := (hE 49 (by omega)).trans a49
  have a50 := (hE 50 (by omega)).trans a50
  have a51 := (hE 51 (by omega)).trans a51
  have hF := hF.tr (hE.wid (by omega))
  have a52 := hX
  refine R.putFG hc rfl gf_X7_37 dX7_init_83 hO (Nat.le_of_ble_eq_true rfl) (fun _ => rfl) (fun _ => rfl) (fun σ hX hE => ?_)
  have hO : σ 42 = some (.inr (7, [.ref 43, .ref 44, .ref 45, .int 0, .int 0, .int 0, .ref 46, .ref 47, .ref 48, .int 0, .ref 49, .ref 50, .ref 51, .ref 52, .null, .null, .int 0, .int 0, .null, .null, .null, .null])) := hX
  have a43 := (hE 43 (by omega)).trans a43
  have a44 := (hE 44 (by omega)).trans a44
  have a45 := (hE 45 (by omega)).trans a45
  have a46 := (hE 46 (by omega)).trans a46
  have a47 := (hE 47 (by omega)).trans a47
  have a48 := (hE 48 (by omega)).trans a48
  have a49 := (hE 49 (by omega)).trans a49
  have a50 := (hE 50 (by omega)).trans a50
  have a51 := (hE 51 (by omega)).trans a51
  have a52 := (hE 52 (by omega)).trans a52
  have hF := hF.tr (hE.wid (by omega))
  refine R.aload_n (j := 0) (i := 0) hc rfl rfl dX7_init_86 ?_
  refine R.bipush hc bp_6 dX7_init_87 ?_
  refine R.nwI (n := 53) hc dX7_init_89 (Nat.le_of_ble_eq_true rfl) ⟨Nat.le_of_ble_eq_true rfl, Nat.le_of_ble_eq_true rfl⟩ rfl (by omega) (fun σ hX hE => ?_)
  have hO := (hE 42 (by omega)).trans hO
  have a43 := (hE 43 (by omega)).trans a43
  have a44 := (hE 44 (by omega)).trans a44
  have a45 := (hE 45 (by omega)).trans a45
  have a46 := (hE 46 (by omega)).trans a46
  have a47 := (hE 47 (by omega)).trans a47
  have a48 := (hE 48 (by omega)).trans a48
  have a49 := (hE 49 (by omega)).trans a49
  have a50 := (hE 50 (by omega)).trans a50
  have a51 := (hE 51 (by omega)).trans a51
  have a52 := (hE 52 (by omega)).trans a52
  have hF := hF.tr (hE.wid (by omega))
  have a53 := hX
  refine R.putFG hc rfl gf_X7_40 dX7_init_91 hO (Nat.le_of_ble_eq_true rfl) (fun _ => rfl) (fun _ => rfl) (fun σ hX hE => ?_)
  have hO : σ 42 = some (.inr (7, [.ref 43, .ref 44, .ref 45, .int 0, .int 0, .int 0, .ref 46, .ref 47, .ref 48, .int 0, .ref 49, .ref 50, .ref 51, .ref 52, .ref 53, .null, .int 0, .int 0, .null, .null, .null, .null])) := hX
  have a43 := (hE 43 (by omega)).trans a43
  have a44 := (hE 44 (by omega)).trans a44
  have a45 := (hE 45 (by omega)).trans a45
  have a46 := (hE 46 (by omega)).trans a46
  have a47 := (hE 47 (by omega)).trans a47
  have a48 := (hE 48 (by omega)).trans a48
  have a49 := (hE 49 (by omega)).trans a49
  have a50 := (hE 50 (by omega)).trans a50
  have a51 := (hE 51 (by omega)).trans a51
  have a52 := (hE 52 (by omega)).trans a52
  have a53 := (hE 53 (by omega)).trans a53
  have hF := hF.tr (hE.wid (by omega))
  refine R.aload_n (j := 0) (i := 0) hc rfl rfl dX7_init_94 ?_
  refine R.sipush hc sp_217 dX7_init_95 ?_
  refine R.nwI (n := 54) hc dX7_init_98 (Nat.le_of_ble_eq_true rfl) ⟨Nat.le_of_ble_eq_true rfl, Nat.le_of_ble_eq_true rfl⟩ rfl (by omega) (fun σ hX hE => ?_)
  have hO := (hE 42 (by omega)).trans hO
  have a43 := (hE 43 (by omega)).trans a43
  have a44 := (hE 44 (by omega)).trans a44
  have a45 := (hE 45 (by omega)).trans a45
  have a46 := (hE 46 (by omega)).trans a46
  have a47 := (hE 47 (by omega)).trans a47
  have a48 := (hE 48 (by omega)).trans a48
  have a49 := (hE 49 (by omega)).trans a49
  have a50 := (hE 50 (by omega)).trans a50
  have a51 := (hE 51 (by omega)).trans a51
  have a52 := (hE 52 (by omega)).trans a52
  have a53 := (hE 53 (by omega)).trans a53
  have hF := hF.tr (hE.wid (by omega))
  have a54 := hX
  refine R.putFG hc rfl gf_X7_43 dX7_init_100 hO (Nat.le_of_ble_eq_true rfl) (fun _ => rfl) (fun _ => rfl) (fun σ hX hE => ?_)
  have hO : σ 42 = some (.inr (7, [.ref 43, .ref 44, .ref 45, .int 0, .int 0, .int 0, .ref 46, .ref 47, .ref 48, .int 0, .ref 49, .ref 50, .ref 51, .ref 52, .ref 53, .ref 54, .int 0, .int 0, .null, .null, .null, .null])) := hX
  have a43 := (hE 43 (by omega)).trans a43
  have a44 := (hE 44 (by omega)).trans a44
  have a45 := (hE 45 (by omega)).trans a45
  have a46 := (hE 46 (by omega)).trans a46
  have a47 := (hE 47 (by omega)).trans a47
  have a48 := (hE 48 (by omega)).trans a48
  have a49 := (hE 49 (by omega)).trans a49
  have a50 := (hE 50 (by omega)).trans a50
  have a51 := (hE 51 (by omega)).trans a51
  have a52 := (hE 52 (by omega)).trans a52
  have a53 := (hE 53 (by omega)).trans a53
  have a54 := (hE 54 (by omega)).trans a54
  have hF := hF.tr (hE.wid (by omega))
  refine R.aload_n (j := 0) (i := 0) hc rfl rfl dX7_init_103 ?_
  refine R.iconst hc ic_4 dX7_init_104 ?_
  refine R.nwI (n := 55) hc dX7_init_105 (Nat.le_of_ble_eq_true rfl) ⟨Nat.le_of_ble_eq_true rfl, Nat.le_of_ble_eq_true rfl⟩ rfl (by omega) (fun σ hX hE => ?_)
  have hO := (hE 42 (by omega)).trans hO
  have a43 := (hE 43 (by omega)).trans a43
  have a44 := (hE 44 (by omega)).trans a44
  have a45 := (hE 45 (by omega)).trans a45
  have a46 := (hE 46 (by omega)).trans a46
  have a47 := (hE 47 (by omega)).trans a47
  have a48 := (hE 48 (by omega)).trans a48
  have a49 := (hE 49 (by omega)).trans a49
  have a50 := (hE 50 (by omega)).trans a50
  have a51 := (hE 51 (by omega)).trans a51
  have a52 := (hE 52 (by omega)).trans a52
  have a53 := (hE 53 (by omega)).trans a53
  have a54 := (hE 54 (by omega)).trans a54
  have hF := hF.tr (hE.wid (by omega))
  have a55 := hX
  refine R.putFG hc rfl gf_X7_46 dX7_init_107 hO (Nat.le_of_ble_eq_true rfl) (fun _ => rfl) (fun _ => rfl) (fun σ hX hE => ?_)
  have hO : σ 42 = some (.inr (7, [.ref 43, .ref 44, .ref 45, .int 0, .int 0, .int 0, .ref 46, .ref 47, .ref 48, .int 0, .ref 49, .ref 50, .ref 51, .ref 52, .ref 53, .ref 54, .int 0, .int 0, .ref 55, .null, .null, .null])) := hX
  have a43 := (hE 43 (by omega)).trans a43
  have a44 := (hE 44 (by omega)).trans a44
  have a45 := (hE 45 (by omega)).trans a45
  have a46 := (hE 46 (by omega)).trans a46
  have a47 := (hE 47 (by omega)).trans a47
  have a48 := (hE 48 (by omega)).trans a48
  have a49 := (hE 49 (by omega)).trans a49
  have a50 := (hE 50 (by omega)).trans a50
  have a51 := (hE 51 (by omega)).trans a51
  have a52 := (hE 52 (by omega)).trans a52
  have a53 := (hE 53 (by omega)).trans a53
  have a54 := (hE 54 (by omega)).trans a54
  have a55 := (hE 55 (by omega)).trans a55
  have hF := hF.tr (hE.wid (by omega))
  refine R.aload_n (j := 0) (i := 0) hc rfl rfl dX7_init_110 ?_
  refine R.iconst hc ic_4 dX7_init_111 ?_
  refine R.nwI (n := 56) hc dX7_init_112 (Nat.le_of_ble_eq_true rfl) ⟨Nat.le_of_ble_eq_true rfl, Nat.le_of_ble_eq_true rfl⟩ rfl (by omega) (fun σ hX hE => ?_)
  have hO := (hE 42 (by omega)).trans hO
  have a43 := (hE 43 (by omega)).trans a43
  have a44 := (hE 44 (by omega)).trans a44
  have a45 := (hE 45 (by omega)).trans a45
  have a46 := (hE 46 (by omega)).trans a46
  have a47 := (hE 47 (by omega)).trans a47
  have a48 := (hE 48 (by omega)).trans a48
  have a49 := (hE 49 (by omega)).trans a49
  have a50 := (hE 50 (by omega)).trans a50
  have a51 := (hE 51 (by omega)).trans a51
  have a52 := (hE 52 (by omega)).trans a52
  have a53 := (hE 53 (by omega)).trans a53
  have a54 := (hE 54 (by omega)).trans a54
  have a55 := (hE 55 (by omega)).trans a55
  have hF := hF.tr (hE.wid (by omega))
  have a56 := hX
  refine R.putFG hc rfl gf_X7_49 dX7_init_114 hO (Nat.le_of_ble_eq_true rfl) (fun _ => rfl) (fun _ => rfl) (fun σ hX hE => ?_)
  have hO : σ 42 = some (.inr (7, [.ref 43, .ref 44, .ref 45, .int 0, .int 0, .int 0, .ref 46, .ref 47, .ref 48, .int 0, .ref 49, .ref 50, .ref 51, .ref 52, .ref 53, .ref 54, .int 0, .int 0, .ref 55, .ref 56, .null, .null])) := hX
  have a43 := (hE 43 (by omega)).trans a43
  have a44 := (hE 44 (by omega)).trans a44
  have a45 := (hE 45 (by omega)).trans a45
  have a46 := (hE 46 (by omega)).trans a46
  have a47 := (hE 47 (by omega)).trans a47
  have a48 := (hE 48 (by omega)).trans a48
  have a49 := (hE 49 (by omega)).trans a49
  have a50 := (hE 50 (by omega)).trans a50
  have a51 := (hE 51 (by omega)).trans a51
  have a52 := (hE 52 (by omega)).trans a52
  have a53 := (hE 53 (by omega)).trans a53
  have a54 := (hE 54 (by omega)).trans a54
  have a55 := (hE 55 (by omega)).trans a55
  have a56 := (hE 56 (by omega)).trans a56
  have hF := hF.tr (hE.wid (by omega))
  refine R.aload_n (j := 0) (i := 0) hc rfl rfl dX7_init_117 ?_
  refine R.bipush hc bp_96 dX7_init_118 ?_
  refine R.nwL (n := 57) hc dX7_init_120 (Nat.le_of_ble_eq_true rfl) ⟨Nat.le_of_ble_eq_true rfl, Nat.le_of_ble_eq_true rfl⟩ rfl (by omega) (fun σ hX hE => ?_)
  have hO := (hE 42 (by omega)).trans hO
  have a43 := (hE 43 (by omega)).trans a43
  have a44 := (hE 44 (by omega)).trans a44
  have a45 := (hE 45 (by omega)).trans a45
  have a46 := (hE 46 (by omega)).trans a46
  have a47 := (hE 47 (by omega)).trans a47
  have a48 := (hE 48 (by omega)).trans a48
  have a49 := (hE 49 (by omega)).trans a49
  have a50 := (hE 50 (by omega)).trans a50
  have a51 := (hE 51 (by omega)).trans a51
  have a52 := (hE 52 (by omega)).trans a52
  have a53 := (hE 53 (by omega)).trans a53
  have a54 := (hE 54 (by omega)).trans a54
  have a55 := (hE 55 (by omega)).trans a55
  have a56 := (hE 56 (by omega)).trans a56
  have hF := hF.tr (hE.wid (by omega))
  have a57 := hX
  refine R.putFG hc rfl gf_X7_52 dX7_init_122 hO (Nat.le_of_ble_eq_true rfl) (fun _ => rfl) (fun _ => rfl) (fun σ hX hE => ?_)
  have hO : σ 42 = some (.inr (7, [.ref 43, .ref 44, .ref 45, .int 0, .int 0, .int 0, .ref 46, .ref 47, .ref 48, .int 0, .ref 49, .ref 50, .ref 51, .ref 52, .ref 53, .ref 54, .int 0, .int 0, .ref 55, .ref 56, .ref 57, .null])) := hX
  have a43 := (hE 43 (by omega)).trans a43
  have a44 := (hE 44 (by omega)).trans a44
  have a45 := (hE 45 (by omega)).trans a45
  have a46 := (hE 46 (by omega)).trans a46
  have a47 := (hE 47 (by omega)).trans a47
  have a48 := (hE 48 (by omega)).trans a48
  have a49 := (hE 49 (by omega)).trans a49
  have a50 := (hE 50 (by omega)).trans a50
  have a51 := (hE 51 (by omega)).trans a51
  have a52 := (hE 52 (by omega)).trans a52
  have a53 := (hE 53 (by omega)).trans a53
  have a54 := (hE 54 (by omega)).trans a54
  have a55 := (hE 55 (by omega)).trans a55
  have a56 := (hE 56 (by omega)).trans a56
  have a57 := (hE 57 (by omega)).trans a57
  have hF := hF.tr (hE.wid (by omega))
  refine R.aload_n (j := 0) (i := 0) hc rfl rfl dX7_init_125 ?_
  refine R.bipush hc bp_24 dX7_init_126 ?_
  refine R.nwL (n := 58) hc dX7_init_128 (Nat.le_of_ble_eq_true rfl) ⟨Nat.le_of_ble_eq_true rfl, Nat.le_of_ble_eq_true rfl⟩ rfl (by omega) (fun σ hX hE => ?_)
  have hO := (hE 42 (by omega)).trans hO
  have a43 := (hE 43 (by omega)).trans a43
  have a44 := (hE 44 (by omega)).trans a44
  have a45 := (hE 45 (by omega)).trans a45
  have a46 := (hE 46 (by omega)).trans a46
  have a47 := (hE 47 (by omega)).trans a47
  have a48 := (hE 48 (by omega)).trans a48
  have a49 := (hE 49 (by omega)).trans a49
  have a50 := (hE 50 (by omega)).trans a50
  have a51 := (hE 51 (by omega)).trans a51
  have a52 := (hE 52 (by omega)).trans a52
  have a53 := (hE 53 (by omega)).trans a53
  have a54 := (hE 54 (by omega)).trans a54
  have a55 := (hE 55 (by omega)).trans a55
  have a56 := (hE 56 (by omega)).trans a56
  have a57 := (hE 57 (by omega)).trans a57
  have hF := hF.tr (hE.wid (by omega))
  have a58 := hX
  refine R.putFG hc rfl gf_X7_56 dX7_init_130 hO (Nat.le_of_ble_eq_true rfl) (fun _ => rfl) (fun _ => rfl) (fun σ hX hE => ?_)
  have hO : σ 42 = some (.inr (7, [.ref 43, .ref 44, .ref 45, .int 0, .int 0, .int 0, .ref 46, .ref 47, .ref 48, .int 0, .ref 49, .ref 50, .ref 51, .ref 52, .ref 53, .ref 54, .int 0, .int 0, .ref 55, .ref 56, .ref 57, .ref 58])) := hX
  have a43 := (hE 43 (by omega)).trans a43
  have a44 := (hE 44 (by omega)).trans a44
  have a45 := (hE 45 (by omega)).trans a45
  have a46 := (hE 46 (by omega)).trans a46
  have a47 := (hE 47 (by omega)).trans a47
  have a48 := (hE 48 (by omega)).trans a48
  have a49 := (hE 49 (by omega)).trans a49
  have a50 := (hE 50 (by omega)).trans a50
  have a51 := (hE 51 (by omega)).trans a51
  have a52 := (hE 52 (by omega)).trans a52
  have a53 := (hE 53 (by omega)).trans a53
  have a54 := (hE 54 (by omega)).trans a54
  have a55 := (hE 55 (by omega)).trans a55
  have a56 := (hE 56 (by omega)).trans a56
  have a57 := (hE 57 (by omega)).trans a57
  have a58 := (hE 58 (by omega)).trans a58
  have hF := hF.tr (hE.wid (by omega))
  have hR : RW σ (fun _ _ => 0) (fun _ _ => 0) (fun _ => 0) := by
    refine ⟨hO, fun k hk => ?_, a57, a58⟩
    rcases (show k = 0 ∨ k = 1 ∨ k = 2 ∨ k = 3 ∨ k = 4 ∨ k = 5 ∨ k = 6 ∨ k = 7 ∨ k = 8 ∨ k = 9 ∨ k = 10 ∨ k = 11 ∨ k = 12 ∨ k = 13 by omega) with rfl | rfl | rfl | rfl | rfl | rfl | rfl | rfl | rfl | rfl | rfl | rfl | rfl | rfl
    · exact a43
    · exact a44
    · exact a45
    · exact a46
    · exact a47
    · exact a48
    · exact a49
    · exact a50
    · exact a51
    · exact a52
    · exact a53
    · exact a54
    · exact a55
    · exact a56
  refine R.aload_n (j := 0) (i := 0) hc rfl rfl dX7_init_133 ?_
  refine R.get hc gf_X7_7_r dX7_init_134 (hR.1) rfl ?_
  refine R.iconst hc ic_3 dX7_init_137 ?_
  refine R.iconst hc ic_1 dX7_init_138 ?_
  refine R.iastG hc dX7_init_139 hR.g0 (by omega) (by decide) (fun σ hX hE => ?_)
  have hR := hR.w0 hX hE
  have hF := hF.tr (hE.wid (by omega))
  refine R.iconst hc ic_0 dX7_init_140 ?_
  refine R.istn1 hc dX7_init_141 (by decide) rfl ?_
  have lp : ∀ (j k : Nat) (σ1 : Wd) (B : Nat → Nat → Int32), k + j = 4 → RW σ1 B (fun _ _ => 0) (fun _ => 0) → B 0 = upd (fun _ => 0) 3 (nI 1) → (∀ i, i ≠ 0 → i ≠ 12 → B i = fun _ => 0) → (∀ s, s < k → B 12 s = -1) → Eqo 42 17 σ0 σ1 → R cx 16 893 59 σ1 142 [some (.ref 42), some (.int (nI k))] [] := by
    intro j
    induction j with
    | zero =>
      intro k σ B hk hR h0 hi hl hF
      refine R.iload_n (j := 1) (i := 1) hc rfl rfl dX7_init_142 ?_
      refine R.iconst hc ic_4 dX7_init_143 ?_
      refine R.icmpN_ge (tgt := 160) hc dX7_init_144 (by decide) (by omega) (by omega) (fun _ => ?_) (fun z => absurd (by omega) z)
      refine R.vret hc rfl dX7_init_160 ⟨rfl, rfl, ⟨B, _, _, hR, ?_⟩, hF⟩
      refine ⟨?_, fun i s h => absurd h (by simp), rfl, by simp, fun j hj => absurd hj (Nat.not_lt_zero _), rfl, ⟨rfl, fun q h => by cases h⟩, fun s hs => hl s (by omega), fun s hs => by rw [hi 13 (by omega) (by omega)]; rfl, fun s hs i h => absurd h (Nat.not_lt_zero _)⟩
      rw [h0]
      exact ⟨rfl, rfl, rfl, rfl, fun k hk p hp => absurd hp (Nat.not_lt_zero _), fun k hk p hp => absurd hp (Nat.not_lt_zero _), fun p hp => absurd hp (Nat.not_lt_zero _)⟩
    | succ j ih =>
      intro k σ B hk hR h0 hi hl hF
      refine R.iload_n (j := 1) (i := 1) hc rfl rfl dX7_init_142 ?_
      refine R.iconst hc ic_4 dX7_init_143 ?_
      refine R.icmpN_ge (tgt := 160) hc dX7_init_144 (by decide) (by omega) (by omega) (fun z => absurd z (by omega)) (fun _ => ?_)
      refine R.aload_n (j := 0) (i := 0) hc rfl rfl dX7_init_147 ?_
      refine R.get hc gf_X7_46_r dX7_init_148 (hR.1) rfl ?_
      refine R.iload_n (j := 1) (i := 1) hc rfl rfl dX7_init_151 ?_
      refine R.iconst hc ic_m1 dX7_init_152 ?_
      refine R.iastG hc dX7_init_153 hR.g12 (by omega) (by decide) (fun σ hX hE => ?_)
      have hR := hR.w12 hX hE
      have hF := hF.tr (hE.wid (by omega))
      refine R.iinc1 hc dX7_init_154 (iiN1 _) (by decide) rfl ?_
      refine R.goto (tgt := 142) hc dX7_init_157 (by decide) ?_
      refine ih (k + 1) σ _ (by omega) hR (by rw [A2_n (by omega)]; exact h0) (fun i i0 i12 => by rw [A2_n i12]; exact hi i i0 i12) (fun s hs => ?_) hF
      rw [A2_s]
      by_cases y : s = k
      · subst y; rw [pk_us]
      · rw [pk_un y]; exact hl s (by omega)
  exact lp 4 0 σ _ (by omega) hR (by rw [A2_s]) (fun i i0 _ => by rw [A2_n i0]) (fun s hs => absurd hs (Nat.not_lt_zero _)) hF
