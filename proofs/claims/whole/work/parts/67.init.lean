def f_X7_init (v : TVi) : TVi := sVi_wolves (sVi_barred (sVi_bolted (sVi_sheep (sVi_kin (sVi_homes (sVi_wells (sVi_paths (sVi_pathCount (sVi_people (sVi_houses v 0) 0) 0) 0) 0) 0) 0) 0) 0) 0) 0
set_option maxHeartbeats 4000000 in
set_option maxRecDepth 100000 in
theorem c_X7_init (g : GT) (w0 : Wd) (a_v : Nat) (v : TVi) (h_v : w0 a_v = some (.inr (7, cVi v))) : CT g yX7_init cX7_init 1 none 1 20 0 0 w0 [.ref a_v] (fun r w2 => r = none ∧ w2 a_v = some (.inr (7, cVi (f_X7_init v))) ∧ wE (fun q => q = a_v) w0 w2) := by
  refine CT.of (own := RX7) (by decide +kernel) rfl (Nat.le_of_ble_eq_true rfl) (fun X hC hR hI => ?_)
  show V g X 1 w0 0 0 0 [(0, .ref a_v)] []
  have hE : wE (fun q => q = a_v) w0 w0 := wE.refl
  refine vv_aload_n hC 0 dX7_init_0 rfl rfl ?_
  refine vv_objInit hC lk_m_X7_3 dX7_init_1 (by decide) (by decide) (by decide) ?_
  refine vv_aload_n hC 0 dX7_init_4 rfl rfl ?_
  refine vv_iconst (v := 0) hC dX7_init_5 (by decide) ?_
  refine vv_put hC fp_X7_9 dX7_init_6 h_v rfl rfl (Nat.le_of_ble_eq_true rfl) (fun w1 t1 hs => ?_)
  have t1 : w1 a_v = some (.inr (7, cVi (sVi_houses v 0))) := t1.trans (congrArg (fun z => some (Sum.inr (7, z))) (eVi_houses _ _))
  have h_v := t1
  have hE := hE.trans (hs.mono (fun _ z => z))
  refine vv_aload_n hC 0 dX7_init_9 rfl rfl ?_
  refine vv_iconst (v := 0) hC dX7_init_10 (by decide) ?_
  refine vv_put hC fp_X7_15 dX7_init_11 h_v rfl rfl (Nat.le_of_ble_eq_true rfl) (fun w2 t1 hs => ?_)
  have t1 : w2 a_v = some (.inr (7, cVi (sVi_people (sVi_houses v 0) 0))) := t1.trans (congrArg (fun z => some (Sum.inr (7, z))) (eVi_people _ _))
  have h_v := t1
  have hE := hE.trans (hs.mono (fun _ z => z))
  refine vv_aload_n hC 0 dX7_init_14 rfl rfl ?_
  refine vv_iconst (v := 0) hC dX7_init_15 (by decide) ?_
  refine vv_put hC fp_X7_18 dX7_init_16 h_v rfl rfl (Nat.le_of_ble_eq_true rfl) (fun w3 t1 hs => ?_)
  have t1 : w3 a_v = some (.inr (7, cVi (sVi_pathCount (sVi_people (sVi_houses v 0) 0) 0))) := t1.trans (congrArg (fun z => some (Sum.inr (7, z))) (eVi_pathCount _ _))
  have h_v := t1
  have hE := hE.trans (hs.mono (fun _ z => z))
  refine vv_aload_n hC 0 dX7_init_19 rfl rfl ?_
  refine vv_lconst (v := 0) hC dX7_init_20 (by decide) ?_
  refine vv_put hC fp_X7_21 dX7_init_21 h_v rfl rfl (Nat.le_of_ble_eq_true rfl) (fun w4 t1 hs => ?_)
  have t1 : w4 a_v = some (.inr (7, cVi (sVi_paths (sVi_pathCount (sVi_people (sVi_houses v 0) 0) 0) 0))) := t1.trans (congrArg (fun z => some (Sum.inr (7, z))) (eVi_paths _ _))
  have h_v := t1
  have hE := hE.trans (hs.mono (fun _ z => z))
  refine vv_aload_n hC 0 dX7_init_24 rfl rfl ?_
  refine vv_lconst (v := 0) hC dX7_init_25 (by decide) ?_
  refine vv_put hC fp_X7_25 dX7_init_26 h_v rfl rfl (Nat.le_of_ble_eq_true rfl) (fun w5 t1 hs => ?_)
  have t1 : w5 a_v = some (.inr (7, cVi (sVi_wells (sVi_paths (sVi_pathCount (sVi_people (sVi_houses v 0) 0) 0) 0) 0))) := t1.trans (congrArg (fun z => some (Sum.inr (7, z))) (eVi_wells _ _))
  have h_v := t1
  have hE := hE.trans (hs.mono (fun _ z => z))
  refine vv_aload_n hC 0 dX7_init_29 rfl rfl ?_
  refine vv_lconst (v := 0) hC dX7_init_30 (by decide) ?_
  refine vv_put hC fp_X7_28 dX7_init_31 h_v rfl rfl (Nat.le_of_ble_eq_true rfl) (fun w6 t1 hs => ?_)
  have t1 : w6 a_v = some (.inr (7, cVi (sVi_homes (sVi_wells (sVi_paths (sVi_pathCount (sVi_people (sVi_houses v 0) 0) 0) 0) 0) 0))) := t1.trans (congrArg (fun z => some (Sum.inr (7, z))) (eVi_homes _ _))
  have h_v := t1
  have hE := hE.trans (hs.mono (fun _ z => z))
  refine vv_aload_n hC 0 dX7_init_34 rfl rfl ?_
  refine vv_lconst (v := 0) hC dX7_init_35 (by decide) ?_
  refine vv_put hC fp_X7_31 dX7_init_36 h_v rfl rfl (Nat.le_of_ble_eq_true rfl) (fun w7 t1 hs => ?_)
  have t1 : w7 a_v = some (.inr (7, cVi (sVi_kin (sVi_homes (sVi_wells (sVi_paths (sVi_pathCount (sVi_people (sVi_houses v 0) 0) 0) 0) 0) 0) 0))) := t1.trans (congrArg (fun z => some (Sum.inr (7, z))) (eVi_kin _ _))
  have h_v := t1
  have hE := hE.trans (hs.mono (fun _ z => z))
  refine vv_aload_n hC 0 dX7_init_39 rfl rfl ?_
  refine vv_lconst (v := 0) hC dX7_init_40 (by decide) ?_
  refine vv_put hC fp_X7_34 dX7_init_41 h_v rfl rfl (Nat.le_of_ble_eq_true rfl) (fun w8 t1 hs => ?_)
  have t1 : w8 a_v = some (.inr (7, cVi (sVi_sheep (sVi_kin (sVi_homes (sVi_wells (sVi_paths (sVi_pathCount (sVi_people (sVi_houses v 0) 0) 0) 0) 0) 0) 0) 0))) := t1.trans (congrArg (fun z => some (Sum.inr (7, z))) (eVi_sheep _ _))
  have h_v := t1
  have hE := hE.trans (hs.mono (fun _ z => z))
  refine vv_aload_n hC 0 dX7_init_44 rfl rfl ?_
  refine vv_iconst (v := 0) hC dX7_init_45 (by decide) ?_
  refine vv_put hC fp_X7_37 dX7_init_46 h_v rfl rfl (Nat.le_of_ble_eq_true rfl) (fun w9 t1 hs => ?_)
  have t1 : w9 a_v = some (.inr (7, cVi (sVi_bolted (sVi_sheep (sVi_kin (sVi_homes (sVi_wells (sVi_paths (sVi_pathCount (sVi_people (sVi_houses v 0) 0) 0) 0) 0) 0) 0) 0) 0))) := t1.trans (congrArg (fun z => some (Sum.inr (7, z))) (eVi_bolted _ _))
  have h_v := t1
  have hE := hE.trans (hs.mono (fun _ z => z))
  refine vv_aload_n hC 0 dX7_init_49 rfl rfl ?_
  refine vv_iconst (v := 0) hC dX7_init_50 (by decide) ?_
  refine vv_put hC fp_X7_40 dX7_init_51 h_v rfl rfl (Nat.le_of_ble_eq_true rfl) (fun w10 t1 hs => ?_)
  have t1 : w10 a_v = some (.inr (7, cVi (sVi_barred (sVi_bolted (sVi_sheep (sVi_kin (sVi_homes (sVi_wells (sVi_paths (sVi_pathCount (sVi_people (sVi_houses v 0) 0) 0) 0) 0) 0) 0) 0) 0) 0))) := t1.trans (congrArg (fun z => some (Sum.inr (7, z))) (eVi_barred _ _))
  have h_v := t1
  have hE := hE.trans (hs.mono (fun _ z => z))
  refine vv_aload_n hC 0 dX7_init_54 rfl rfl ?_
  refine vv_iconst (v := 0) hC dX7_init_55 (by decide) ?_
  refine vv_put hC fp_X7_43 dX7_init_56 h_v rfl rfl (Nat.le_of_ble_eq_true rfl) (fun w11 t1 hs => ?_)
  have t1 : w11 a_v = some (.inr (7, cVi (sVi_wolves (sVi_barred (sVi_bolted (sVi_sheep (sVi_kin (sVi_homes (sVi_wells (sVi_paths (sVi_pathCount (sVi_people (sVi_houses v 0) 0) 0) 0) 0) 0) 0) 0) 0) 0) 0))) := t1.trans (congrArg (fun z => some (Sum.inr (7, z))) (eVi_wolves _ _))
  have h_v := t1
  have hE := hE.trans (hs.mono (fun _ z => z))
  have hf : (f_X7_init v) = sVi_wolves (sVi_barred (sVi_bolted (sVi_sheep (sVi_kin (sVi_homes (sVi_wells (sVi_paths (sVi_pathCount (sVi_people (sVi_houses v 0) 0) 0) 0) 0) 0) 0) 0) 0) 0) 0 := by first | (simp only [f_X7_init]; done) | rfl | (simp only [f_X7_init]; rfl)
  refine vv_vret hC hR rfl dX7_init_59 (by omega) (by omega) ?_
  rw [hf]
  exact ⟨rfl, h_v, hE⟩
def f_X2_init (n : TN) : TN := sN_biters (sN_tracks (sN_sheep (sN_barred (sN_bolted (sN_out (sN_gone (sN_bitten (sN_wolves (sN_number n 0) 0) 0) 0) 0) 0) 0) 0) 0) 0
set_option maxHeartbeats 4000000 in
set_option maxRecDepth 100000 in
theorem c_X2_init (g : GT) (w0 : Wd) (a_n : Nat) (n : TN) (h_n : w0 a_n = some (.inr (2, cN n))) : CT g yX2_init cX2_init 1 none 1 20 0 0 w0 [.ref a_n] (fun r w2 => r = none ∧ w2 a_n = some (.inr (2, cN (f_X2_init n))) ∧ wE (fun q => q = a_n) w0 w2) := by
  refine CT.of (own := RX2) (by decide +kernel) rfl (Nat.le_of_ble_eq_true rfl) (fun X hC hR hI => ?_)
  show V g X 1 w0 0 0 0 [(0, .ref a_n)] []
  have hE : wE (fun q => q = a_n) w0 w0 := wE.refl
  refine vv_aload_n hC 0 dX2_init_0 rfl rfl ?_
  refine vv_objInit hC lk_m_X2_3 dX2_init_1 (by decide) (by decide) (by decide) ?_
  refine vv_aload_n hC 0 dX2_init_4 rfl rfl ?_
  refine vv_iconst (v := 0) hC dX2_init_5 (by decide) ?_
  refine vv_put hC fp_X2_9 dX2_init_6 h_n rfl rfl (Nat.le_of_ble_eq_true rfl) (fun w1 t1 hs => ?_)
  have t1 : w1 a_n = some (.inr (2, cN (sN_number n 0))) := t1.trans (congrArg (fun z => some (Sum.inr (2, z))) (eN_number _ _))
  have h_n := t1
  have hE := hE.trans (hs.mono (fun _ z => z))
  refine vv_aload_n hC 0 dX2_init_9 rfl rfl ?_
  refine vv_iconst (v := 0) hC dX2_init_10 (by decide) ?_
  refine vv_put hC fp_X2_15 dX2_init_11 h_n rfl rfl (Nat.le_of_ble_eq_true rfl) (fun w2 t1 hs => ?_)
  have t1 : w2 a_n = some (.inr (2, cN (sN_wolves (sN_number n 0) 0))) := t1.trans (congrArg (fun z => some (Sum.inr (2, z))) (eN_wolves _ _))
  have h_n := t1
  have hE := hE.trans (hs.mono (fun _ z => z))
  refine vv_aload_n hC 0 dX2_init_14 rfl rfl ?_
  refine vv_iconst (v := 0) hC dX2_init_15 (by decide) ?_
  refine vv_put hC fp_X2_18 dX2_init_16 h_n rfl rfl (Nat.le_of_ble_eq_true rfl) (fun w3 t1 hs => ?_)
  have t1 : w3 a_n = some (.inr (2, cN (sN_bitten (sN_wolves (sN_number n 0) 0) 0))) := t1.trans (congrArg (fun z => some (Sum.inr (2, z))) (eN_bitten _ _))
  have h_n := t1
  have hE := hE.trans (hs.mono (fun _ z => z))
  refine vv_aload_n hC 0 dX2_init_19 rfl rfl ?_
  refine vv_iconst (v := 0) hC dX2_init_20 (by decide) ?_
  refine vv_put hC fp_X2_21 dX2_init_21 h_n rfl rfl (Nat.le_of_ble_eq_true rfl) (fun w4 t1 hs => ?_)
  have t1 : w4 a_n = some (.inr (2, cN (sN_gone (sN_bitten (sN_wolves (sN_number n 0) 0) 0) 0))) := t1.trans (congrArg (fun z => some (Sum.inr (2, z))) (eN_gone _ _))
  have h_n := t1
  have hE := hE.trans (hs.mono (fun _ z => z))
  refine vv_aload_n hC 0 dX2_init_24 rfl rfl ?_
  refine vv_iconst (v := 0) hC dX2_init_25 (by decide) ?_
  refine vv_put hC fp_X2_24 dX2_init_26 h_n rfl rfl (Nat.le_of_ble_eq_true rfl) (fun w5 t1 hs => ?_)
  have t1 : w5 a_n = some (.inr (2, cN (sN_out (sN_gone (sN_bitten (sN_wolves (sN_number n 0) 0) 0) 0) 0))) := t1.trans (congrArg (fun z => some (Sum.inr (2, z))) (eN_out _ _))
  have h_n := t1
  have hE := hE.trans (hs.mono (fun _ z => z))
  refine vv_aload_n hC 0 dX2_init_29 rfl rfl ?_
  refine vv_iconst (v := 0) hC dX2_init_30 (by decide) ?_
  refine vv_put hC fp_X2_27 dX2_init_31 h_n rfl rfl (Nat.le_of_ble_eq_true rfl) (fun w6 t1 hs => ?_)
  have t1 : w6 a_n = some (.inr (2, cN (sN_bolted (sN_out (sN_gone (sN_bitten (sN_wolves (sN_number n 0) 0) 0) 0) 0) 0))) := t1.trans (congrArg (fun z => some (Sum.inr (2, z))) (eN_bolted _ _))
  have h_n := t1
  have hE := hE.trans (hs.mono (fun _ z => z))
  refine vv_aload_n hC 0 dX2_init_34 rfl rfl ?_
  refine vv_iconst (v := 0) hC dX2_init_35 (by decide) ?_
  refine vv_put hC fp_X2_30 dX2_init_36 h_n rfl rfl (Nat.le_of_ble_eq_true rfl) (fun w7 t1 hs => ?_)
  have t1 : w7 a_n = some (.inr (2, cN (sN_barred (sN_bolted (sN_out (sN_gone (sN_bitten (sN_wolves (sN_number n 0) 0) 0) 0) 0) 0) 0))) := t1.trans (congrArg (fun z => some (Sum.inr (2, z))) (eN_barred _ _))
  have h_n := t1
  have hE := hE.trans (hs.mono (fun _ z => z))
  refine vv_aload_n hC 0 dX2_init_39 rfl rfl ?_
  refine vv_lconst (v := 0) hC dX2_init_40 (by decide) ?_
  refine vv_put hC fp_X2_33 dX2_init_41 h_n rfl rfl (Nat.le_of_ble_eq_true rfl) (fun w8 t1 hs => ?_)
  have t1 : w8 a_n = some (.inr (2, cN (sN_sheep (sN_barred (sN_bolted (sN_out (sN_gone (sN_bitten (sN_wolves (sN_number n 0) 0) 0) 0) 0) 0) 0) 0))) := t1.trans (congrArg (fun z => some (Sum.inr (2, z))) (eN_sheep _ _))
  have h_n := t1
  have hE := hE.trans (hs.mono (fun _ z => z))
  refine vv_aload_n hC 0 dX2_init_44 rfl rfl ?_
  refine vv_lconst (v := 0) hC dX2_init_45 (by decide) ?_
  refine vv_put hC fp_X2_37 dX2_init_46 h_n rfl rfl (Nat.le_of_ble_eq_true rfl) (fun w9 t1 hs => ?_)
  have t1 : w9 a_n = some (.inr (2, cN (sN_tracks (sN_sheep (sN_barred (sN_bolted (sN_out (sN_gone (sN_bitten (sN_wolves (sN_number n 0) 0) 0) 0) 0) 0) 0) 0) 0))) := t1.trans (congrArg (fun z => some (Sum.inr (2, z))) (eN_tracks _ _))
  have h_n := t1
  have hE := hE.trans (hs.mono (fun _ z => z))
  refine vv_aload_n hC 0 dX2_init_49 rfl rfl ?_
  refine vv_lconst (v := 0) hC dX2_init_50 (by decide) ?_
  refine vv_put hC fp_X2_40 dX2_init_51 h_n rfl rfl (Nat.le_of_ble_eq_true rfl) (fun w10 t1 hs => ?_)
  have t1 : w10 a_n = some (.inr (2, cN (sN_biters (sN_tracks (sN_sheep (sN_barred (sN_bolted (sN_out (sN_gone (sN_bitten (sN_wolves (sN_number n 0) 0) 0) 0) 0) 0) 0) 0) 0) 0))) := t1.trans (congrArg (fun z => some (Sum.inr (2, z))) (eN_biters _ _))
  have h_n := t1
  have hE := hE.trans (hs.mono (fun _ z => z))
  have hf : (f_X2_init n) = sN_biters (sN_tracks (sN_sheep (sN_barred (sN_bolted (sN_out (sN_gone (sN_bitten (sN_wolves (sN_number n 0) 0) 0) 0) 0) 0) 0) 0) 0) 0 := by first | (simp only [f_X2_init]; done) | rfl | (simp only [f_X2_init]; rfl)
  refine vv_vret hC hR rfl dX2_init_54 (by omega) (by omega) ?_
  rw [hf]
  exact ⟨rfl, h_n, hE⟩
