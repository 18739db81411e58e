def f_X2_copyFrom (n : TN) (o : TN) : TN := sN_biters (sN_tracks (sN_sheep (sN_barred (sN_bolted (sN_out (sN_gone (sN_bitten (sN_wolves (sN_number n (gN_number o)) (gN_wolves o)) (gN_bitten o)) (gN_gone o)) (gN_out o)) (gN_bolted o)) (gN_barred o)) (gN_sheep o)) (gN_tracks o)) (gN_biters o)
set_option maxHeartbeats 4000000 in
set_option maxRecDepth 100000 in
theorem c_X2_copyFrom (g : GT) (w0 : Wd) (a_n : Nat) (a_o : Nat) (n : TN) (o : TN) (h_n : w0 a_n = some (.inr (2, cN n))) (h_o : w0 a_o = some (.inr (2, cN o))) (ne_n_o : ¬ a_n = a_o) : CT g yX2_copyFrom cX2_copyFrom 2 none 0 0 0 0 w0 [.ref a_n, .ref a_o] (fun r w2 => r = none ∧ w2 a_n = some (.inr (2, cN (f_X2_copyFrom n o))) ∧ wE (fun q => q = a_n) w0 w2) := by
  refine CT.of (own := RX2) (by decide +kernel) rfl (Nat.le_of_ble_eq_true rfl) (fun X hC hR hI => ?_)
  show V g X 2 w0 0 0 0 [(0, .ref a_n), (1, .ref a_o)] []
  have hE : wE (fun q => q = a_n) w0 w0 := wE.refl
  refine vv_aload_n hC 0 dX2_copyFrom_0 rfl rfl ?_
  refine vv_aload_n hC 1 dX2_copyFrom_1 rfl rfl ?_
  refine vv_get (v := .int (gN_number o)) hC fl_X2_9 dX2_copyFrom_2 h_o rfl ?_
  refine vv_put hC fp_X2_9 dX2_copyFrom_5 h_n rfl rfl (Nat.le_of_ble_eq_true rfl) (fun w1 t1 hs => ?_)
  have t1 : w1 a_n = some (.inr (2, cN (sN_number n (gN_number o)))) := t1.trans (congrArg (fun z => some (Sum.inr (2, z))) (eN_number _ _))
  have h_o := hs _ _ (fun e => ne_n_o e.symm) h_o
  have h_n := t1
  have hE := hE.trans (hs.mono (fun _ z => z))
  refine vv_aload_n hC 0 dX2_copyFrom_8 rfl rfl ?_
  refine vv_aload_n hC 1 dX2_copyFrom_9 rfl rfl ?_
  refine vv_get (v := .int (gN_wolves o)) hC fl_X2_15 dX2_copyFrom_10 h_o rfl ?_
  refine vv_put hC fp_X2_15 dX2_copyFrom_13 h_n rfl rfl (Nat.le_of_ble_eq_true rfl) (fun w2 t1 hs => ?_)
  have t1 : w2 a_n = some (.inr (2, cN (sN_wolves (sN_number n (gN_number o)) (gN_wolves o)))) := t1.trans (congrArg (fun z => some (Sum.inr (2, z))) (eN_wolves _ _))
  have h_o := hs _ _ (fun e => ne_n_o e.symm) h_o
  have h_n := t1
  have hE := hE.trans (hs.mono (fun _ z => z))
  refine vv_aload_n hC 0 dX2_copyFrom_16 rfl rfl ?_
  refine vv_aload_n hC 1 dX2_copyFrom_17 rfl rfl ?_
  refine vv_get (v := .int (gN_bitten o)) hC fl_X2_18 dX2_copyFrom_18 h_o rfl ?_
  refine vv_put hC fp_X2_18 dX2_copyFrom_21 h_n rfl rfl (Nat.le_of_ble_eq_true rfl) (fun w3 t1 hs => ?_)
  have t1 : w3 a_n = some (.inr (2, cN (sN_bitten (sN_wolves (sN_number n (gN_number o)) (gN_wolves o)) (gN_bitten o)))) := t1.trans (congrArg (fun z => some (Sum.inr (2, z))) (eN_bitten _ _))
  have h_o := hs _ _ (fun e => ne_n_o e.symm) h_o
  have h_n := t1
  have hE := hE.trans (hs.mono (fun _ z => z))
  refine vv_aload_n hC 0 dX2_copyFrom_24 rfl rfl ?_
  refine vv_aload_n hC 1 dX2_copyFrom_25 rfl rfl ?_
  refine vv_get (v := .int (gN_gone o)) hC fl_X2_21 dX2_copyFrom_26 h_o rfl ?_
  refine vv_put hC fp_X2_21 dX2_copyFrom_29 h_n rfl rfl (Nat.le_of_ble_eq_true rfl) (fun w4 t1 hs => ?_)
  have t1 : w4 a_n = some (.inr (2, cN (sN_gone (sN_bitten (sN_wolves (sN_number n (gN_number o)) (gN_wolves o)) (gN_bitten o)) (gN_gone o)))) := t1.trans (congrArg (fun z => some (Sum.inr (2, z))) (eN_gone _ _))
  have h_o := hs _ _ (fun e => ne_n_o e.symm) h_o
  have h_n := t1
  have hE := hE.trans (hs.mono (fun _ z => z))
  refine vv_aload_n hC 0 dX2_copyFrom_32 rfl rfl ?_
  refine vv_aload_n hC 1 dX2_copyFrom_33 rfl rfl ?_
  refine vv_get (v := .int (gN_out o)) hC fl_X2_24 dX2_copyFrom_34 h_o rfl ?_
  refine vv_put hC fp_X2_24 dX2_copyFrom_37 h_n rfl rfl (Nat.le_of_ble_eq_true rfl) (fun w5 t1 hs => ?_)
  have t1 : w5 a_n = some (.inr (2, cN (sN_out (sN_gone (sN_bitten (sN_wolves (sN_number n (gN_number o)) (gN_wolves o)) (gN_bitten o)) (gN_gone o)) (gN_out o)))) := t1.trans (congrArg (fun z => some (Sum.inr (2, z))) (eN_out _ _))
  have h_o := hs _ _ (fun e => ne_n_o e.symm) h_o
  have h_n := t1
  have hE := hE.trans (hs.mono (fun _ z => z))
  refine vv_aload_n hC 0 dX2_copyFrom_40 rfl rfl ?_
  refine vv_aload_n hC 1 dX2_copyFrom_41 rfl rfl ?_
  refine vv_get (v := .int (gN_bolted o)) hC fl_X2_27 dX2_copyFrom_42 h_o rfl ?_
  refine vv_put hC fp_X2_27 dX2_copyFrom_45 h_n rfl rfl (Nat.le_of_ble_eq_true rfl) (fun w6 t1 hs => ?_)
  have t1 : w6 a_n = some (.inr (2, cN (sN_bolted (sN_out (sN_gone (sN_bitten (sN_wolves (sN_number n (gN_number o)) (gN_wolves o)) (gN_bitten o)) (gN_gone o)) (gN_out o)) (gN_bolted o)))) := t1.trans (congrArg (fun z => some (Sum.inr (2, z))) (eN_bolted _ _))
  have h_o := hs _ _ (fun e => ne_n_o e.symm) h_o
  have h_n := t1
  have hE := hE.trans (hs.mono (fun _ z => z))
  refine vv_aload_n hC 0 dX2_copyFrom_48 rfl rfl ?_
  refine vv_aload_n hC 1 dX2_copyFrom_49 rfl rfl ?_
  refine vv_get (v := .int (gN_barred o)) hC fl_X2_30 dX2_copyFrom_50 h_o rfl ?_
  refine vv_put hC fp_X2_30 dX2_copyFrom_53 h_n rfl rfl (Nat.le_of_ble_eq_true rfl) (fun w7 t1 hs => ?_)
  have t1 : w7 a_n = some (.inr (2, cN (sN_barred (sN_bolted (sN_out (sN_gone (sN_bitten (sN_wolves (sN_number n (gN_number o)) (gN_wolves o)) (gN_bitten o)) (gN_gone o)) (gN_out o)) (gN_bolted o)) (gN_barred o)))) := t1.trans (congrArg (fun z => some (Sum.inr (2, z))) (eN_barred _ _))
  have h_o := hs _ _ (fun e => ne_n_o e.symm) h_o
  have h_n := t1
  have hE := hE.trans (hs.mono (fun _ z => z))
  refine vv_aload_n hC 0 dX2_copyFrom_56 rfl rfl ?_
  refine vv_aload_n hC 1 dX2_copyFrom_57 rfl rfl ?_
  refine vv_get (v := .long (gN_sheep o)) hC fl_X2_33 dX2_copyFrom_58 h_o rfl ?_
  refine vv_put hC fp_X2_33 dX2_copyFrom_61 h_n rfl rfl (Nat.le_of_ble_eq_true rfl) (fun w8 t1 hs => ?_)
  have t1 : w8 a_n = some (.inr (2, cN (sN_sheep (sN_barred (sN_bolted (sN_out (sN_gone (sN_bitten (sN_wolves (sN_number n (gN_number o)) (gN_wolves o)) (gN_bitten o)) (gN_gone o)) (gN_out o)) (gN_bolted o)) (gN_barred o)) (gN_sheep o)))) := t1.trans (congrArg (fun z => some (Sum.inr (2, z))) (eN_sheep _ _))
  have h_o := hs _ _ (fun e => ne_n_o e.symm) h_o
  have h_n := t1
  have hE := hE.trans (hs.mono (fun _ z => z))
  refine vv_aload_n hC 0 dX2_copyFrom_64 rfl rfl ?_
  refine vv_aload_n hC 1 dX2_copyFrom_65 rfl rfl ?_
  refine vv_get (v := .long (gN_tracks o)) hC fl_X2_37 dX2_copyFrom_66 h_o rfl ?_
  refine vv_put hC fp_X2_37 dX2_copyFrom_69 h_n rfl rfl (Nat.le_of_ble_eq_true rfl) (fun w9 t1 hs => ?_)
  have t1 : w9 a_n = some (.inr (2, cN (sN_tracks (sN_sheep (sN_barred (sN_bolted (sN_out (sN_gone (sN_bitten (sN_wolves (sN_number n (gN_number o)) (gN_wolves o)) (gN_bitten o)) (gN_gone o)) (gN_out o)) (gN_bolted o)) (gN_barred o)) (gN_sheep o)) (gN_tracks o)))) := t1.trans (congrArg (fun z => some (Sum.inr (2, z))) (eN_tracks _ _))
  have h_o := hs _ _ (fun e => ne_n_o e.symm) h_o
  have h_n := t1
  have hE := hE.trans (hs.mono (fun _ z => z))
  refine vv_aload_n hC 0 dX2_copyFrom_72 rfl rfl ?_
  refine vv_aload_n hC 1 dX2_copyFrom_73 rfl rfl ?_
  refine vv_get (v := .long (gN_biters o)) hC fl_X2_40 dX2_copyFrom_74 h_o rfl ?_
  refine vv_put hC fp_X2_40 dX2_copyFrom_77 h_n rfl rfl (Nat.le_of_ble_eq_true rfl) (fun w10 t1 hs => ?_)
  have t1 : w10 a_n = some (.inr (2, cN (sN_biters (sN_tracks (sN_sheep (sN_barred (sN_bolted (sN_out (sN_gone (sN_bitten (sN_wolves (sN_number n (gN_number o)) (gN_wolves o)) (gN_bitten o)) (gN_gone o)) (gN_out o)) (gN_bolted o)) (gN_barred o)) (gN_sheep o)) (gN_tracks o)) (gN_biters o)))) := t1.trans (congrArg (fun z => some (Sum.inr (2, z))) (eN_biters _ _))
  have h_o := hs _ _ (fun e => ne_n_o e.symm) h_o
  have h_n := t1
  have hE := hE.trans (hs.mono (fun _ z => z))
  have hf : (f_X2_copyFrom n o) = sN_biters (sN_tracks (sN_sheep (sN_barred (sN_bolted (sN_out (sN_gone (sN_bitten (sN_wolves (sN_number n (gN_number o)) (gN_wolves o)) (gN_bitten o)) (gN_gone o)) (gN_out o)) (gN_bolted o)) (gN_barred o)) (gN_sheep o)) (gN_tracks o)) (gN_biters o) := by first | (simp only [f_X2_copyFrom]; done) | rfl | (simp only [f_X2_copyFrom]; rfl)
  refine vv_vret hC hR rfl dX2_copyFrom_80 (by omega) (by omega) ?_
  rw [hf]
  exact ⟨rfl, h_n, hE⟩
def f_X2_begin (n : TN) (v : TVi) : TN := sN_biters (sN_tracks (sN_sheep (sN_barred (sN_bolted (sN_out (sN_gone (sN_bitten (sN_wolves (sN_number n 0) (gVi_wolves v)) 0) 0) 0) (gVi_bolted v)) (gVi_barred v)) (gVi_sheep v)) 0) 0
set_option maxHeartbeats 4000000 in
set_option maxRecDepth 100000 in
theorem c_X2_begin (g : GT) (w0 : Wd) (a_n : Nat) (a_v : Nat) (n : TN) (v : TVi) (h_n : w0 a_n = some (.inr (2, cN n))) (h_v : w0 a_v = some (.inr (7, cVi v))) : CT g yX2_begin cX2_begin 2 none 0 0 0 0 w0 [.ref a_n, .ref a_v] (fun r w2 => r = none ∧ w2 a_n = some (.inr (2, cN (f_X2_begin n v))) ∧ wE (fun q => q = a_n) w0 w2) := by
  refine CT.of (own := RX2) (by decide +kernel) rfl (Nat.le_of_ble_eq_true rfl) (fun X hC hR hI => ?_)
  show V g X 2 w0 0 0 0 [(0, .ref a_n), (1, .ref a_v)] []
  have hE : wE (fun q => q = a_n) w0 w0 := wE.refl
  refine vv_aload_n hC 0 dX2_begin_0 rfl rfl ?_
  refine vv_iconst (v := 0) hC dX2_begin_1 (by decide) ?_
  refine vv_put hC fp_X2_9 dX2_begin_2 h_n rfl rfl (Nat.le_of_ble_eq_true rfl) (fun w1 t1 hs => ?_)
  have t1 : w1 a_n = some (.inr (2, cN (sN_number n 0))) := t1.trans (congrArg (fun z => some (Sum.inr (2, z))) (eN_number _ _))
  have h_v := hs _ _ (fw_oo h_v h_n (by decide)) h_v
  have h_n := t1
  have hE := hE.trans (hs.mono (fun _ z => z))
  refine vv_aload_n hC 0 dX2_begin_5 rfl rfl ?_
  refine vv_aload_n hC 1 dX2_begin_6 rfl rfl ?_
  refine vv_getN (v := .int (gVi_wolves v)) hC fl_X2_43 dX2_begin_7 h_v rfl ?_
  refine vv_put hC fp_X2_15 dX2_begin_10 h_n rfl rfl (Nat.le_of_ble_eq_true rfl) (fun w2 t1 hs => ?_)
  have t1 : w2 a_n = some (.inr (2, cN (sN_wolves (sN_number n 0) (gVi_wolves v)))) := t1.trans (congrArg (fun z => some (Sum.inr (2, z))) (eN_wolves _ _))
  have h_v := hs _ _ (fw_oo h_v h_n (by decide)) h_v
  have h_n := t1
  have hE := hE.trans (hs.mono (fun _ z => z))
  refine vv_aload_n hC 0 dX2_begin_13 rfl rfl ?_
  refine vv_iconst (v := 0) hC dX2_begin_14 (by decide) ?_
  refine vv_put hC fp_X2_18 dX2_begin_15 h_n rfl rfl (Nat.le_of_ble_eq_true rfl) (fun w3 t1 hs => ?_)
  have t1 : w3 a_n = some (.inr (2, cN (sN_bitten (sN_wolves (sN_number n 0) (gVi_wolves v)) 0))) := t1.trans (congrArg (fun z => some (Sum.inr (2, z))) (eN_bitten _ _))
  have h_v := hs _ _ (fw_oo h_v h_n (by decide)) h_v
  have h_n := t1
  have hE := hE.trans (hs.mono (fun _ z => z))
  refine vv_aload_n hC 0 dX2_begin_18 rfl rfl ?_
  refine vv_iconst (v := 0) hC dX2_begin_19 (by decide) ?_
  refine vv_put hC fp_X2_21 dX2_begin_20 h_n rfl rfl (Nat.le_of_ble_eq_true rfl) (fun w4 t1 hs => ?_)
  have t1 : w4 a_n = some (.inr (2, cN (sN_gone (sN_bitten (sN_wolves (sN_number n 0) (gVi_wolves v)) 0) 0))) := t1.trans (congrArg (fun z => some (Sum.inr (2, z))) (eN_gone _ _))
  have h_v := hs _ _ (fw_oo h_v h_n (by decide)) h_v
  have h_n := t1
  have hE := hE.trans (hs.mono (fun _ z => z))
  refine vv_aload_n hC 0 dX2_begin_23 rfl rfl ?_
  refine vv_iconst (v := 0) hC dX2_begin_24 (by decide) ?_
  refine vv_put hC fp_X2_24 dX2_begin_25 h_n rfl rfl (Nat.le_of_ble_eq_true rfl) (fun w5 t1 hs => ?_)
  have t1 : w5 a_n = some (.inr (2, cN (sN_out (sN_gone (sN_bitten (sN_wolves (sN_number n 0) (gVi_wolves v)) 0) 0) 0))) := t1.trans (congrArg (fun z => some (Sum.inr (2, z))) (eN_out _ _))
  have h_v := hs _ _ (fw_oo h_v h_n (by decide)) h_v
  have h_n := t1
  have hE := hE.trans (hs.mono (fun _ z => z))
  refine vv_aload_n hC 0 dX2_begin_28 rfl rfl ?_
  refine vv_aload_n hC 1 dX2_begin_29 rfl rfl ?_
  refine vv_getN (v := .int (gVi_bolted v)) hC fl_X2_46 dX2_begin_30 h_v rfl ?_
  refine vv_put hC fp_X2_27 dX2_begin_33 h_n rfl rfl (Nat.le_of_ble_eq_true rfl) (fun w6 t1 hs => ?_)
  have t1 : w6 a_n = some (.inr (2, cN (sN_bolted (sN_out (sN_gone (sN_bitten (sN_wolves (sN_number n 0) (gVi_wolves v)) 0) 0) 0) (gVi_bolted v)))) := t1.trans (congrArg (fun z => some (Sum.inr (2, z))) (eN_bolted _ _))
  have h_v := hs _ _ (fw_oo h_v h_n (by decide)) h_v
  have h_n := t1
  have hE := hE.trans (hs.mono (fun _ z => z))
  refine vv_aload_n hC 0 dX2_begin_36 rfl rfl ?_
  refine vv_aload_n hC 1 dX2_begin_37 rfl rfl ?_
  refine vv_getN (v := .int (gVi_barred v)) hC fl_X2_47 dX2_begin_38 h_v rfl ?_
  refine vv_put hC fp_X2_30 dX2_begin_41 h_n rfl rfl (Nat.le_of_ble_eq_true rfl) (fun w7 t1 hs => ?_)
  have t1 : w7 a_n = some (.inr (2, cN (sN_barred (sN_bolted (sN_out (sN_gone (sN_bitten (sN_wolves (sN_number n 0) (gVi_wolves v)) 0) 0) 0) (gVi_bolted v)) (gVi_barred v)))) := t1.trans (congrArg (fun z => some (Sum.inr (2, z))) (eN_barred _ _))
  have h_v := hs _ _ (fw_oo h_v h_n (by decide)) h_v
  have h_n := t1
  have hE := hE.trans (hs.mono (fun _ z => z))
  refine vv_aload_n hC 0 dX2_begin_44 rfl rfl ?_
  refine vv_aload_n hC 1 dX2_begin_45 rfl rfl ?_
  refine vv_getN (v := .long (gVi_sheep v)) hC fl_X2_48 dX2_begin_46 h_v rfl ?_
  refine vv_put hC fp_X2_33 dX2_begin_49 h_n rfl rfl (Nat.le_of_ble_eq_true rfl) (fun w8 t1 hs => ?_)
  have t1 : w8 a_n = some (.inr (2, cN (sN_sheep (sN_barred (sN_bolted (sN_out (sN_gone (sN_bitten (sN_wolves (sN_number n 0) (gVi_wolves v)) 0) 0) 0) (gVi_bolted v)) (gVi_barred v)) (gVi_sheep v)))) := t1.trans (congrArg (fun z => some (Sum.inr (2, z))) (eN_sheep _ _))
  have h_v := hs _ _ (fw_oo h_v h_n (by decide)) h_v
  have h_n := t1
  have hE := hE.trans (hs.mono (fun _ z => z))
  refine vv_aload_n hC 0 dX2_begin_52 rfl rfl ?_
  refine vv_lconst (v := 0) hC dX2_begin_53 (by decide) ?_
  refine vv_put hC fp_X2_37 dX2_begin_54 h_n rfl rfl (Nat.le_of_ble_eq_true rfl) (fun w9 t1 hs => ?_)
  have t1 : w9 a_n = some (.inr (2, cN (sN_tracks (sN_sheep (sN_barred (sN_bolted (sN_out (sN_gone (sN_bitten (sN_wolves (sN_number n 0) (gVi_wolves v)) 0) 0) 0) (gVi_bolted v)) (gVi_barred v)) (gVi_sheep v)) 0))) := t1.trans (congrArg (fun z => some (Sum.inr (2, z))) (eN_tracks _ _))
  have h_v := hs _ _ (fw_oo h_v h_n (by decide)) h_v
  have h_n := t1
  have hE := hE.trans (hs.mono (fun _ z => z))
  refine vv_aload_n hC 0 dX2_begin_57 rfl rfl ?_
  refine vv_lconst (v := 0) hC dX2_begin_58 (by decide) ?_
  refine vv_put hC fp_X2_40 dX2_begin_59 h_n rfl rfl (Nat.le_of_ble_eq_true rfl) (fun w10 t1 hs => ?_)
  have t1 : w10 a_n = some (.inr (2, cN (sN_biters (sN_tracks (sN_sheep (sN_barred (sN_bolted (sN_out (sN_gone (sN_bitten (sN_wolves (sN_number n 0) (gVi_wolves v)) 0) 0) 0) (gVi_bolted v)) (gVi_barred v)) (gVi_sheep v)) 0) 0))) := t1.trans (congrArg (fun z => some (Sum.inr (2, z))) (eN_biters _ _))
  have h_v := hs _ _ (fw_oo h_v h_n (by decide)) h_v
  have h_n := t1
  have hE := hE.trans (hs.mono (fun _ z => z))
  have hf : (f_X2_begin n v) = sN_biters (sN_tracks (sN_sheep (sN_barred (sN_bolted (sN_out (sN_gone (sN_bitten (sN_wolves (sN_number n 0) (gVi_wolves v)) 0) 0) 0) (gVi_bolted v)) (gVi_barred v)) (gVi_sheep v)) 0) 0 := by first | (simp only [f_X2_begin]; done) | rfl | (simp only [f_X2_begin]; rfl)
  refine vv_vret hC hR rfl dX2_begin_62 (by omega) (by omega) ?_
  rw [hf]
  exact ⟨rfl, h_n, hE⟩
def f_X2_there (n : TN) (v : TVi) : Int32 := (f_X8_below (nI (gVi_people v)) &&& (gN_gone n ^^^ (-1)))
set_option maxHeartbeats 4000000 in
set_option maxRecDepth 100000 in
theorem c_X2_there (g : GT) (w0 : Wd) (a_n : Nat) (a_v : Nat) (n : TN) (v : TVi) (h_n : w0 a_n = some (.inr (2, cN n))) (h_v : w0 a_v = some (.inr (7, cVi v))) : CT g yX2_there cX2_there 2 (some .int) 1 20 0 0 w0 [.ref a_n, .ref a_v] (fun r w2 => r = some (.int (f_X2_there n v)) ∧ w0 = w2) := by
  refine CT.of (own := RX2) (by decide +kernel) rfl (Nat.le_of_ble_eq_true rfl) (fun X hC hR hI => ?_)
  show V g X 2 w0 0 0 0 [(0, .ref a_n), (1, .ref a_v)] []
  refine vv_aload_n hC 1 dX2_there_0 rfl rfl ?_
  refine vv_getN (v := .int (nI (gVi_people v))) hC fl_X2_49 dX2_there_1 h_v rfl ?_
  refine vv_callSN hC dX2_there_4 md_X8_below lk_n_X2_52 lk_t_X8_below (As := [.int (nI (gVi_people v))]) (rest := []) (c_X8_below g w0 (nI (gVi_people v))) rfl rfl (Nat.le_of_ble_eq_true rfl) ⟨by decide, by decide, by decide, by decide⟩ (fun r w9 hq => ?_)
  obtain ⟨rfl, rfl⟩ := hq
  show V g X 2 w0 0 0 7 [(0, .ref a_n), (1, .ref a_v)] [.int (f_X8_below (nI (gVi_people v)))]
  refine vv_aload_n hC 0 dX2_there_7 rfl rfl ?_
  refine vv_get (v := .int (gN_gone n)) hC fl_X2_21 dX2_there_8 h_n rfl ?_
  refine vv_iconst (v := (-1)) hC dX2_there_11 (by decide) ?_
  refine vv_ixor hC dX2_there_12 ?_
  refine vv_iand hC dX2_there_13 ?_
  have hf : (f_X2_there n v) = (f_X8_below (nI (gVi_people v)) &&& (gN_gone n ^^^ (-1))) := by first | (simp only [f_X2_there]; done) | rfl | (simp only [f_X2_there]; rfl)
  refine vv_iret hC hR rfl dX2_there_14 (by omega) (by omega) ?_
  rw [hf]
  exact ⟨rfl, rfl⟩
def f_X2_openHouses (n : TN) (v : TVi) : Int32 := ((f_X8_below (nI (gVi_houses v)) &&& (gN_bolted n ^^^ (-1))) &&& (gN_barred n ^^^ (-1)))
set_option maxHeartbeats 4000000 in
set_option maxRecDepth 100000 in
theorem c_X2_openHouses (g : GT) (w0 : Wd) (a_n : Nat) (a_v : Nat) (n : TN) (v : TVi) (h_n : w0 a_n = some (.inr (2, cN n))) (h_v : w0 a_v = some (.inr (7, cVi v))) : CT g yX2_openHouses cX2_openHouses 2 (some .int) 1 20 0 0 w0 [.ref a_n, .ref a_v] (fun r w2 => r = some (.int (f_X2_openHouses n v)) ∧ w0 = w2) := by
  refine CT.of (own := RX2) (by decide +kernel) rfl (Nat.le_of_ble_eq_true rfl) (fun X hC hR hI => ?_)
  show V g X 2 w0 0 0 0 [(0, .ref a_n), (1, .ref a_v)] []
  refine vv_aload_n hC 1 dX2_openHouses_0 rfl rfl ?_
  refine vv_getN (v := .int (nI (gVi_houses v))) hC fl_X2_56 dX2_openHouses_1 h_v rfl ?_
  refine vv_callSN hC dX2_openHouses_4 md_X8_below lk_n_X2_52 lk_t_X8_below (As := [.int (nI (gVi_houses v))]) (rest := []) (c_X8_below g w0 (nI (gVi_houses v))) rfl rfl (Nat.le_of_ble_eq_true rfl) ⟨by decide, by decide, by decide, by decide⟩ (fun r w9 hq => ?_)
  obtain ⟨rfl, rfl⟩ := hq
  show V g X 2 w0 0 0 7 [(0, .ref a_n), (1, .ref a_v)] [.int (f_X8_below (nI (gVi_houses v)))]
  refine vv_aload_n hC 0 dX2_openHouses_7 rfl rfl ?_
  refine vv_get (v := .int (gN_bolted n)) hC fl_X2_27 dX2_openHouses_8 h_n rfl ?_
  refine vv_iconst (v := (-1)) hC dX2_openHouses_11 (by decide) ?_
  refine vv_ixor hC dX2_openHouses_12 ?_
  refine vv_iand hC dX2_openHouses_13 ?_
  refine vv_aload_n hC 0 dX2_openHouses_14 rfl rfl ?_
  refine vv_get (v := .int (gN_barred n)) hC fl_X2_30 dX2_openHouses_15 h_n rfl ?_
  refine vv_iconst (v := (-1)) hC dX2_openHouses_18 (by decide) ?_
  refine vv_ixor hC dX2_openHouses_19 ?_
  refine vv_iand hC dX2_openHouses_20 ?_
  have hf : (f_X2_openHouses n v) = ((f_X8_below (nI (gVi_houses v)) &&& (gN_bolted n ^^^ (-1))) &&& (gN_barred n ^^^ (-1))) := by first | (simp only [f_X2_openHouses]; done) | rfl | (simp only [f_X2_openHouses]; rfl)
  refine vv_iret hC hR rfl dX2_openHouses_21 (by omega) (by omega) ?_
  rw [hf]
  exact ⟨rfl, rfl⟩
def f_X2_boltOf (n : TN) (p1 : Int32) : Int32 := (if f_X8_has (gN_barred n) p1 = true then 2 else bI (if f_X8_has (gN_bolted n) p1 = true then true else false))
set_option maxHeartbeats 4000000 in
set_option maxRecDepth 100000 in
theorem c_X2_boltOf (g : GT) (w0 : Wd) (a_n : Nat) (n : TN) (p1 : Int32) (h_n : w0 a_n = some (.inr (2, cN n))) : CT g yX2_boltOf cX2_boltOf 2 (some .int) 1 21 0 0 w0 [.ref a_n, .int p1] (fun r w2 => r = some (.int (f_X2_boltOf n p1)) ∧ w0 = w2) := by
  refine CT.of (own := RX2) (by decide +kernel) rfl (Nat.le_of_ble_eq_true rfl) (fun X hC hR hI => ?_)
  show V g X 2 w0 0 0 0 [(0, .ref a_n), (1, .int p1)] []
  refine vv_aload_n hC 0 dX2_boltOf_0 rfl rfl ?_
  refine vv_get (v := .int (gN_barred n)) hC fl_X2_30 dX2_boltOf_1 h_n rfl ?_
  refine vv_iload_n hC 1 dX2_boltOf_4 rfl rfl ?_
  refine vv_callSN hC dX2_boltOf_5 md_X8_has lk_n_X2_59 lk_t_X8_has (As := [.int (gN_barred n), .int p1]) (rest := []) (c_X8_has g w0 (gN_barred n) p1) rfl rfl (Nat.le_of_ble_eq_true rfl) ⟨by decide, by decide, by decide, by decide⟩ (fun r w9 hq => ?_)
  obtain ⟨rfl, rfl⟩ := hq
  show V g X 2 w0 0 0 8 [(0, .ref a_n), (1, .int p1)] [.int (bI (f_X8_has (gN_barred n) p1))]
  refine vv_if_eq hC 13 dX2_boltOf_8 (by decide) (fun c1 => ?_) (fun c1 => ?_)
  · have c1 : ¬ (f_X8_has (gN_barred n) p1 = true) := bI_f c1
    refine vv_aload_n hC 0 dX2_boltOf_13 rfl rfl ?_
    refine vv_get (v := .int (gN_bolted n)) hC fl_X2_27 dX2_boltOf_14 h_n rfl ?_
    refine vv_iload_n hC 1 dX2_boltOf_17 rfl rfl ?_
    refine vv_callSN hC dX2_boltOf_18 md_X8_has lk_n_X2_59 lk_t_X8_has (As := [.int (gN_bolted n), .int p1]) (rest := []) (c_X8_has g w0 (gN_bolted n) p1) rfl rfl (Nat.le_of_ble_eq_true rfl) ⟨by decide, by decide, by decide, by decide⟩ (fun r w9 hq => ?_)
    obtain ⟨rfl, rfl⟩ := hq
    show V g X 2 w0 0 0 21 [(0, .ref a_n), (1, .int p1)] [.int (bI (f_X8_has (gN_bolted n) p1))]
    have hJ3 : V g X 2 w0 0 0 29 [(0, .ref a_n), (1, .int p1)] [.int (bI (if f_X8_has (gN_bolted n) p1 = true then true else false))] := by
      have hf : (f_X2_boltOf n p1) = bI (if f_X8_has (gN_bolted n) p1 = true then true else false) := by first | (simp only [f_X2_boltOf, if_neg c1]; done) | rfl | (simp only [f_X2_boltOf, if_neg c1]; rfl)
      refine vv_iret hC hR rfl dX2_boltOf_29 (by omega) (by omega) ?_
      rw [hf]
      exact ⟨rfl, rfl⟩
    refine vv_if_eq hC 28 dX2_boltOf_21 (by decide) (fun c2 => ?_) (fun c2 => ?_)
    · have c2 : ¬ (f_X8_has (gN_bolted n) p1 = true) := bI_f c2
      refine vv_iconst (v := 0) hC dX2_boltOf_28 (by decide) ?_
      have hz := hJ3
      try simp only [if_neg c2] at hz
      first | exact hz | (simp only [if_neg c2]; exact hz)
    · have c2 : f_X8_has (gN_bolted n) p1 = true := bI_t c2
      refine vv_iconst (v := 1) hC dX2_boltOf_24 (by decide) ?_
      refine vv_goto hC 29 dX2_boltOf_25 (by decide) ?_
      have hz := hJ3
      try simp only [if_pos c2] at hz
      first | exact hz | (simp only [if_pos c2]; exact hz)
  · have c1 : f_X8_has (gN_barred n) p1 = true := bI_t c1
    refine vv_iconst (v := 2) hC dX2_boltOf_11 (by decide) ?_
    have hf : (f_X2_boltOf n p1) = 2 := by first | (simp only [f_X2_boltOf, if_pos c1]; done) | rfl | (simp only [f_X2_boltOf, if_pos c1]; rfl)
    refine vv_iret hC hR rfl dX2_boltOf_12 (by omega) (by omega) ?_
    rw [hf]
    exact ⟨rfl, rfl⟩
def f_X2_setBolt (n : TN) (p1 : Int32) (p2 : Int32) : TN := sN_barred (sN_bolted n (if p2 = 1 then (gN_bolted n ||| f_X8_bit p1) else (gN_bolted n &&& (f_X8_bit p1 ^^^ (-1))))) (if p2 = 2 then (gN_barred n ||| f_X8_bit p1) else (gN_barred n &&& (f_X8_bit p1 ^^^ (-1))))
set_option maxHeartbeats 4000000 in
set_option maxRecDepth 100000 in
theorem c_X2_setBolt (g : GT) (w0 : Wd) (a_n : Nat) (n : TN) (p1 : Int32) (p2 : Int32) (h_n : w0 a_n = some (.inr (2, cN n))) : CT g yX2_setBolt cX2_setBolt 3 none 1 20 0 0 w0 [.ref a_n, .int p1, .int p2] (fun r w2 => r = none ∧ w2 a_n = some (.inr (2, cN (f_X2_setBolt n p1 p2))) ∧ wE (fun q => q = a_n) w0 w2) := by
  refine CT.of (own := RX2) (by decide +kernel) rfl (Nat.le_of_ble_eq_true rfl) (fun X hC hR hI => ?_)
  show V g X 3 w0 0 0 0 [(0, .ref a_n), (1, .int p1), (2, .int p2)] []
  have hE : wE (fun q => q = a_n) w0 w0 := wE.refl
  refine vv_aload_n hC 0 dX2_setBolt_0 rfl rfl ?_
  refine vv_iload_n hC 2 dX2_setBolt_1 rfl rfl ?_
  refine vv_iconst (v := 1) hC dX2_setBolt_2 (by decide) ?_
  have hJ2 : V g X 3 w0 0 0 29 [(0, .ref a_n), (1, .int p1), (2, .int p2)] [.int (if p2 = 1 then (gN_bolted n ||| f_X8_bit p1) else (gN_bolted n &&& (f_X8_bit p1 ^^^ (-1)))), .ref a_n] := by
    refine vv_put hC fp_X2_27 dX2_setBolt_29 h_n rfl rfl (Nat.le_of_ble_eq_true rfl) (fun w3 t1 hs => ?_)
    have t1 : w3 a_n = some (.inr (2, cN (sN_bolted n (if p2 = 1 then (gN_bolted n ||| f_X8_bit p1) else (gN_bolted n &&& (f_X8_bit p1 ^^^ (-1))))))) := t1.trans (congrArg (fun z => some (Sum.inr (2, z))) (eN_bolted _ _))
    have h_n := t1
    have hE := hE.trans (hs.mono (fun _ z => z))
    refine vv_aload_n hC 0 dX2_setBolt_32 rfl rfl ?_
    refine vv_iload_n hC 2 dX2_setBolt_33 rfl rfl ?_
    refine vv_iconst (v := 2) hC dX2_setBolt_34 (by decide) ?_
    have hJ5 : V g X 3 w3 0 0 61 [(0, .ref a_n), (1, .int p1), (2, .int p2)] [.int (if p2 = 2 then (gN_barred n ||| f_X8_bit p1) else (gN_barred n &&& (f_X8_bit p1 ^^^ (-1)))), .ref a_n] := by
      refine vv_put hC fp_X2_30 dX2_setBolt_61 h_n rfl rfl (Nat.le_of_ble_eq_true rfl) (fun w6 t1 hs => ?_)
      have t1 : w6 a_n = some (.inr (2, cN (sN_barred (sN_bolted n (if p2 = 1 then (gN_bolted n ||| f_X8_bit p1) else (gN_bolted n &&& (f_X8_bit p1 ^^^ (-1))))) (if p2 = 2 then (gN_barred n ||| f_X8_bit p1) else (gN_barred n &&& (f_X8_bit p1 ^^^ (-1))))))) := t1.trans (congrArg (fun z => some (Sum.inr (2, z))) (eN_barred _ _))
      have h_n := t1
      have hE := hE.trans (hs.mono (fun _ z => z))
      have hf : (f_X2_setBolt n p1 p2) = sN_barred (sN_bolted n (if p2 = 1 then (gN_bolted n ||| f_X8_bit p1) else (gN_bolted n &&& (f_X8_bit p1 ^^^ (-1))))) (if p2 = 2 then (gN_barred n ||| f_X8_bit p1) else (gN_barred n &&& (f_X8_bit p1 ^^^ (-1)))) := by first | (simp only [f_X2_setBolt]; done) | rfl | (simp only [f_X2_setBolt]; rfl)
      refine vv_vret hC hR rfl dX2_setBolt_64 (by omega) (by omega) ?_
      rw [hf]
      exact ⟨rfl, h_n, hE⟩
    refine vv_icmp_ne hC 50 dX2_setBolt_35 (by decide) (fun c4 => ?_) (fun c4 => ?_)
    · have c4 : ¬ (p2 = 2) := c4
      refine vv_aload_n hC 0 dX2_setBolt_50 rfl rfl ?_
      refine vv_get (v := .int (gN_barred n)) hC fl_X2_30 dX2_setBolt_51 h_n rfl ?_
      refine vv_iload_n hC 1 dX2_setBolt_54 rfl rfl ?_
      refine vv_callSN hC dX2_setBolt_55 md_X8_bit lk_n_X2_63 lk_t_X8_bit (As := [.int p1]) (rest := [.int (gN_barred n), .ref a_n]) (c_X8_bit g w3 p1) rfl rfl (Nat.le_of_ble_eq_true rfl) ⟨by decide, by decide, by decide, by decide⟩ (fun r w9 hq => ?_)
      obtain ⟨rfl, rfl⟩ := hq
      show V g X 3 w3 0 0 58 [(0, .ref a_n), (1, .int p1), (2, .int p2)] [.int (f_X8_bit p1), .int (gN_barred n), .ref a_n]
      refine vv_iconst (v := (-1)) hC dX2_setBolt_58 (by decide) ?_
      refine vv_ixor hC dX2_setBolt_59 ?_
      refine vv_iand hC dX2_setBolt_60 ?_
      have hz := hJ5
      try simp only [if_neg c4] at hz
      first | exact hz | (simp only [if_neg c4]; exact hz)
    · have c4 : p2 = 2 := c4
      refine vv_aload_n hC 0 dX2_setBolt_38 rfl rfl ?_
      refine vv_get (v := .int (gN_barred n)) hC fl_X2_30 dX2_setBolt_39 h_n rfl ?_
      refine vv_iload_n hC 1 dX2_setBolt_42 rfl rfl ?_
      refine vv_callSN hC dX2_setBolt_43 md_X8_bit lk_n_X2_63 lk_t_X8_bit (As := [.int p1]) (rest := [.int (gN_barred n), .ref a_n]) (c_X8_bit g w3 p1) rfl rfl (Nat.le_of_ble_eq_true rfl) ⟨by decide, by decide, by decide, by decide⟩ (fun r w9 hq => ?_)
      obtain ⟨rfl, rfl⟩ := hq
      show V g X 3 w3 0 0 46 [(0, .ref a_n), (1, .int p1), (2, .int p2)] [.int (f_X8_bit p1), .int (gN_barred n), .ref a_n]
      refine vv_ior hC dX2_setBolt_46 ?_
      refine vv_goto hC 61 dX2_setBolt_47 (by decide) ?_
      have hz := hJ5
      try simp only [if_pos c4] at hz
      first | exact hz | (simp only [if_pos c4]; exact hz)
  refine vv_icmp_ne hC 18 dX2_setBolt_3 (by decide) (fun c1 => ?_) (fun c1 => ?_)
  · have c1 : ¬ (p2 = 1) := c1
    refine vv_aload_n hC 0 dX2_setBolt_18 rfl rfl ?_
    refine vv_get (v := .int (gN_bolted n)) hC fl_X2_27 dX2_setBolt_19 h_n rfl ?_
    refine vv_iload_n hC 1 dX2_setBolt_22 rfl rfl ?_
    refine vv_callSN hC dX2_setBolt_23 md_X8_bit lk_n_X2_63 lk_t_X8_bit (As := [.int p1]) (rest := [.int (gN_bolted n), .ref a_n]) (c_X8_bit g w0 p1) rfl rfl (Nat.le_of_ble_eq_true rfl) ⟨by decide, by decide, by decide, by decide⟩ (fun r w9 hq => ?_)
    obtain ⟨rfl, rfl⟩ := hq
    show V g X 3 w0 0 0 26 [(0, .ref a_n), (1, .int p1), (2, .int p2)] [.int (f_X8_bit p1), .int (gN_bolted n), .ref a_n]
    refine vv_iconst (v := (-1)) hC dX2_setBolt_26 (by decide) ?_
    refine vv_ixor hC dX2_setBolt_27 ?_
    refine vv_iand hC dX2_setBolt_28 ?_
    have hz := hJ2
    try simp only [if_neg c1] at hz
    first | exact hz | (simp only [if_neg c1]; exact hz)
  · have c1 : p2 = 1 := c1
    refine vv_aload_n hC 0 dX2_setBolt_6 rfl rfl ?_
    refine vv_get (v := .int (gN_bolted n)) hC fl_X2_27 dX2_setBolt_7 h_n rfl ?_
    refine vv_iload_n hC 1 dX2_setBolt_10 rfl rfl ?_
    refine vv_callSN hC dX2_setBolt_11 md_X8_bit lk_n_X2_63 lk_t_X8_bit (As := [.int p1]) (rest := [.int (gN_bolted n), .ref a_n]) (c_X8_bit g w0 p1) rfl rfl (Nat.le_of_ble_eq_true rfl) ⟨by decide, by decide, by decide, by decide⟩ (fun r w9 hq => ?_)
    obtain ⟨rfl, rfl⟩ := hq
    show V g X 3 w0 0 0 14 [(0, .ref a_n), (1, .int p1), (2, .int p2)] [.int (f_X8_bit p1), .int (gN_bolted n), .ref a_n]
    refine vv_ior hC dX2_setBolt_14 ?_
    refine vv_goto hC 29 dX2_setBolt_15 (by decide) ?_
    have hz := hJ2
    try simp only [if_pos c1] at hz
    first | exact hz | (simp only [if_pos c1]; exact hz)
def f_X2_reach (n : TN) (v : TVi) (p2 : Int32) : Int32 := (if f_X8_has (gN_barred n) (f_X8_cell (gVi_homes v) p2) = true then (0 : Int32) else (f_X8_cell (gVi_paths v) (f_X8_cell (gVi_homes v) p2) &&& f_X2_openHouses n v))
set_option maxHeartbeats 4000000 in
set_option maxRecDepth 100000 in
theorem c_X2_reach (g : GT) (w0 : Wd) (a_n : Nat) (a_v : Nat) (n : TN) (v : TVi) (p2 : Int32) (h_n : w0 a_n = some (.inr (2, cN n))) (h_v : w0 a_v = some (.inr (7, cVi v))) : CT g yX2_reach cX2_reach 4 (some .int) 2 41 0 0 w0 [.ref a_n, .ref a_v, .int p2] (fun r w2 => r = some (.int (f_X2_reach n v p2)) ∧ w0 = w2) := by
  refine CT.of (own := RX2) (by decide +kernel) rfl (Nat.le_of_ble_eq_true rfl) (fun X hC hR hI => ?_)
  show V g X 4 w0 0 0 0 [(0, .ref a_n), (1, .ref a_v), (2, .int p2)] []
  refine vv_aload_n hC 1 dX2_reach_0 rfl rfl ?_
  refine vv_getN (v := .long (gVi_homes v)) hC fl_X2_66 dX2_reach_1 h_v rfl ?_
  refine vv_iload_n hC 2 dX2_reach_4 rfl rfl ?_
  refine vv_callSN hC dX2_reach_5 md_X8_cell lk_n_X2_69 lk_t_X8_cell (As := [.long (gVi_homes v), .int p2]) (rest := []) (c_X8_cell g w0 (gVi_homes v) p2) rfl rfl (Nat.le_of_ble_eq_true rfl) ⟨by decide, by decide, by decide, by decide⟩ (fun r w9 hq => ?_)
  obtain ⟨rfl, rfl⟩ := hq
  show V g X 4 w0 0 0 8 [(0, .ref a_n), (1, .ref a_v), (2, .int p2)] [.int (f_X8_cell (gVi_homes v) p2)]
  refine vv_istore_n (lv2 := [(3, .int (f_X8_cell (gVi_homes v) p2)), (0, .ref a_n), (1, .ref a_v), (2, .int p2)]) hC dX2_reach_8 rfl (by decide) rfl ?_
  refine vv_aload_n hC 1 dX2_reach_9 rfl rfl ?_
  refine vv_get (v := .int (gN_barred n)) hC fl_X2_30 dX2_reach_10 h_n rfl ?_
  refine vv_iload_n hC 0 dX2_reach_13 rfl rfl ?_
  refine vv_callSN hC dX2_reach_14 md_X8_has lk_n_X2_59 lk_t_X8_has (As := [.int (gN_barred n), .int (f_X8_cell (gVi_homes v) p2)]) (rest := []) (c_X8_has g w0 (gN_barred n) (f_X8_cell (gVi_homes v) p2)) rfl rfl (Nat.le_of_ble_eq_true rfl) ⟨by decide, by decide, by decide, by decide⟩ (fun r w9 hq => ?_)
  obtain ⟨rfl, rfl⟩ := hq
  show V g X 4 w0 0 0 17 [(3, .int (f_X8_cell (gVi_homes v) p2)), (0, .ref a_n), (1, .ref a_v), (2, .int p2)] [.int (bI (f_X8_has (gN_barred n) (f_X8_cell (gVi_homes v) p2)))]
  have hJ2 : V g X 4 w0 0 0 38 [(0, .ref a_n), (1, .ref a_v), (2, .int p2), (3, .int (f_X8_cell (gVi_homes v) p2))] [.int (if f_X8_has (gN_barred n) (f_X8_cell (gVi_homes v) p2) = true then (0 : Int32) else (f_X8_cell (gVi_paths v) (f_X8_cell (gVi_homes v) p2) &&& f_X2_openHouses n v))] := by
    have hf : (f_X2_reach n v p2) = (if f_X8_has (gN_barred n) (f_X8_cell (gVi_homes v) p2) = true then (0 : Int32) else (f_X8_cell (gVi_paths v) (f_X8_cell (gVi_homes v) p2) &&& f_X2_openHouses n v)) := by first | (simp only [f_X2_reach]; done) | rfl | (simp only [f_X2_reach]; rfl)
    refine vv_iret hC hR rfl dX2_reach_38 (by omega) (by omega) ?_
    rw [hf]
    exact ⟨rfl, rfl⟩
  refine vv_if_eq hC 24 dX2_reach_17 (by decide) (fun c1 => ?_) (fun c1 => ?_)
  · have c1 : ¬ (f_X8_has (gN_barred n) (f_X8_cell (gVi_homes v) p2) = true) := bI_f c1
    refine vv_aload_n hC 2 dX2_reach_24 rfl rfl ?_
    refine vv_getN (v := .long (gVi_paths v)) hC fl_X2_73 dX2_reach_25 h_v rfl ?_
    refine vv_iload_n hC 0 dX2_reach_28 rfl rfl ?_
    refine vv_callSN hC dX2_reach_29 md_X8_cell lk_n_X2_69 lk_t_X8_cell (As := [.long (gVi_paths v), .int (f_X8_cell (gVi_homes v) p2)]) (rest := []) (c_X8_cell g w0 (gVi_paths v) (f_X8_cell (gVi_homes v) p2)) rfl rfl (Nat.le_of_ble_eq_true rfl) ⟨by decide, by decide, by decide, by decide⟩ (fun r w9 hq => ?_)
    obtain ⟨rfl, rfl⟩ := hq
    show V g X 4 w0 0 0 32 [(3, .int (f_X8_cell (gVi_homes v) p2)), (0, .ref a_n), (1, .ref a_v), (2, .int p2)] [.int (f_X8_cell (gVi_paths v) (f_X8_cell (gVi_homes v) p2))]
    refine vv_aload_n hC 1 dX2_reach_32 rfl rfl ?_
    refine vv_aload_n hC 2 dX2_reach_33 rfl rfl ?_
    refine vv_callV hC dX2_reach_34 md_X2_openHouses lk_m_X2_76 lk_i_X2_openHouses lk_s_X2_openHouses h_n rfl (As := [.ref a_v]) (rest := [.int (f_X8_cell (gVi_paths v) (f_X8_cell (gVi_homes v) p2))]) (c_X2_openHouses g w0 a_n a_v n v h_n h_v) rfl rfl (Nat.le_of_ble_eq_true rfl) ⟨by decide, by decide, by decide, by decide⟩ (fun r w9 hq => ?_)
    obtain ⟨rfl, rfl⟩ := hq
    show V g X 4 w0 0 0 37 [(3, .int (f_X8_cell (gVi_homes v) p2)), (0, .ref a_n), (1, .ref a_v), (2, .int p2)] [.int (f_X2_openHouses n v), .int (f_X8_cell (gVi_paths v) (f_X8_cell (gVi_homes v) p2))]
    refine vv_iand hC dX2_reach_37 ?_
    refine vv_lv [1, 2, 3, 0] rfl ?_
    have hz := hJ2
    try simp only [if_neg c1] at hz
    first | exact hz | (simp only [if_neg c1]; exact hz)
  · have c1 : f_X8_has (gN_barred n) (f_X8_cell (gVi_homes v) p2) = true := bI_t c1
    refine vv_iconst (v := 0) hC dX2_reach_20 (by decide) ?_
    refine vv_goto hC 38 dX2_reach_21 (by decide) ?_
    refine vv_lv [1, 2, 3, 0] rfl ?_
    have hz := hJ2
    try simp only [if_pos c1] at hz
    first | exact hz | (simp only [if_pos c1]; exact hz)
def f_X2_goals (n : TN) (v : TVi) (p2 : Int32) : Int32 := (if f_X8_has ((gN_wolves n &&& (gN_gone n ^^^ (-1))) &&& (gN_out n ^^^ (-1))) p2 = true then f_X2_reach n v p2 else (0 : Int32))
set_option maxHeartbeats 4000000 in
set_option maxRecDepth 100000 in
theorem c_X2_goals (g : GT) (w0 : Wd) (a_n : Nat) (a_v : Nat) (n : TN) (v : TVi) (p2 : Int32) (h_n : w0 a_n = some (.inr (2, cN n))) (h_v : w0 a_v = some (.inr (7, cVi v))) : CT g yX2_goals cX2_goals 3 (some .int) 3 64 0 0 w0 [.ref a_n, .ref a_v, .int p2] (fun r w2 => r = some (.int (f_X2_goals n v p2)) ∧ w0 = w2) := by
  refine CT.of (own := RX2) (by decide +kernel) rfl (Nat.le_of_ble_eq_true rfl) (fun X hC hR hI => ?_)
  show V g X 3 w0 0 0 0 [(0, .ref a_n), (1, .ref a_v), (2, .int p2)] []
  refine vv_aload_n hC 0 dX2_goals_0 rfl rfl ?_
  refine vv_get (v := .int (gN_wolves n)) hC fl_X2_15 dX2_goals_1 h_n rfl ?_
  refine vv_aload_n hC 0 dX2_goals_4 rfl rfl ?_
  refine vv_get (v := .int (gN_gone n)) hC fl_X2_21 dX2_goals_5 h_n rfl ?_
  refine vv_iconst (v := (-1)) hC dX2_goals_8 (by decide) ?_
  refine vv_ixor hC dX2_goals_9 ?_
  refine vv_iand hC dX2_goals_10 ?_
  refine vv_aload_n hC 0 dX2_goals_11 rfl rfl ?_
  refine vv_get (v := .int (gN_out n)) hC fl_X2_24 dX2_goals_12 h_n rfl ?_
  refine vv_iconst (v := (-1)) hC dX2_goals_15 (by decide) ?_
  refine vv_ixor hC dX2_goals_16 ?_
  refine vv_iand hC dX2_goals_17 ?_
  refine vv_iload_n hC 2 dX2_goals_18 rfl rfl ?_
  refine vv_callSN hC dX2_goals_19 md_X8_has lk_n_X2_59 lk_t_X8_has (As := [.int ((gN_wolves n &&& (gN_gone n ^^^ (-1))) &&& (gN_out n ^^^ (-1))), .int p2]) (rest := []) (c_X8_has g w0 ((gN_wolves n &&& (gN_gone n ^^^ (-1))) &&& (gN_out n ^^^ (-1))) p2) rfl rfl (Nat.le_of_ble_eq_true rfl) ⟨by decide, by decide, by decide, by decide⟩ (fun r w9 hq => ?_)
  obtain ⟨rfl, rfl⟩ := hq
  show V g X 3 w0 0 0 22 [(0, .ref a_n), (1, .ref a_v), (2, .int p2)] [.int (bI (f_X8_has ((gN_wolves n &&& (gN_gone n ^^^ (-1))) &&& (gN_out n ^^^ (-1))) p2))]
  have hJ2 : V g X 3 w0 0 0 35 [(0, .ref a_n), (1, .ref a_v), (2, .int p2)] [.int (if f_X8_has ((gN_wolves n &&& (gN_gone n ^^^ (-1))) &&& (gN_out n ^^^ (-1))) p2 = true then f_X2_reach n v p2 else (0 : Int32))] := by
    have hf : (f_X2_goals n v p2) = (if f_X8_has ((gN_wolves n &&& (gN_gone n ^^^ (-1))) &&& (gN_out n ^^^ (-1))) p2 = true then f_X2_reach n v p2 else (0 : Int32)) := by first | (simp only [f_X2_goals]; done) | rfl | (simp only [f_X2_goals]; rfl)
    refine vv_iret hC hR rfl dX2_goals_35 (by omega) (by omega) ?_
    rw [hf]
    exact ⟨rfl, rfl⟩
  refine vv_if_eq hC 34 dX2_goals_22 (by decide) (fun c1 => ?_) (fun c1 => ?_)
  · have c1 : ¬ (f_X8_has ((gN_wolves n &&& (gN_gone n ^^^ (-1))) &&& (gN_out n ^^^ (-1))) p2 = true) := bI_f c1
    refine vv_iconst (v := 0) hC dX2_goals_34 (by decide) ?_
    have hz := hJ2
    try simp only [if_neg c1] at hz
    first | exact hz | (simp only [if_neg c1]; exact hz)
  · have c1 : f_X8_has ((gN_wolves n &&& (gN_gone n ^^^ (-1))) &&& (gN_out n ^^^ (-1))) p2 = true := bI_t c1
    refine vv_aload_n hC 0 dX2_goals_25 rfl rfl ?_
    refine vv_aload_n hC 1 dX2_goals_26 rfl rfl ?_
    refine vv_iload_n hC 2 dX2_goals_27 rfl rfl ?_
    refine vv_callV hC dX2_goals_28 md_X2_reach lk_m_X2_80 lk_i_X2_reach lk_s_X2_reach h_n rfl (As := [.ref a_v, .int p2]) (rest := []) (c_X2_reach g w0 a_n a_v n v p2 h_n h_v) rfl rfl (Nat.le_of_ble_eq_true rfl) ⟨by decide, by decide, by decide, by decide⟩ (fun r w9 hq => ?_)
    obtain ⟨rfl, rfl⟩ := hq
    show V g X 3 w0 0 0 31 [(0, .ref a_n), (1, .ref a_v), (2, .int p2)] [.int (f_X2_reach n v p2)]
    refine vv_goto hC 35 dX2_goals_31 (by decide) ?_
    have hz := hJ2
    try simp only [if_pos c1] at hz
    first | exact hz | (simp only [if_pos c1]; exact hz)
def f_X2_victim (n : TN) (v : TVi) (p2 : Int32) (p3 : Int32) : Int32 := (if f_X8_cell (gN_sheep n) p3 ≤ 0 then f_X8_bitNumbered ((((f_X2_there n v &&& f_X7_dwellers v p3) &&& (gN_wolves n ^^^ (-1))) &&& (gN_bitten n ^^^ (-1))) &&& (f_X8_cell (gVi_kin v) p2 ^^^ (-1))) 0 else (-9))
set_option maxHeartbeats 4000000 in
set_option maxRecDepth 100000 in
theorem c_X2_victim (g : GT) (w0 : Wd) (a_n : Nat) (a_v : Nat) (n : TN) (v : TVi) (p2 : Int32) (p3 : Int32) (hvh : gVi_houses v ≤ 4) (hvp : gVi_people v ≤ 6) (h_n : w0 a_n = some (.inr (2, cN n))) (h_v : w0 a_v = some (.inr (7, cVi v))) : CT g yX2_victim cX2_victim 5 (some .int) 2 45 0 0 w0 [.ref a_n, .ref a_v, .int p2, .int p3] (fun r w2 => r = some (.int (f_X2_victim n v p2 p3)) ∧ w0 = w2) := by
  refine CT.of (own := RX2) (by decide +kernel) rfl (Nat.le_of_ble_eq_true rfl) (fun X hC hR hI => ?_)
  show V g X 5 w0 0 0 0 [(0, .ref a_n), (1, .ref a_v), (2, .int p2), (3, .int p3)] []
  refine vv_aload_n hC 0 dX2_victim_0 rfl rfl ?_
  refine vv_get (v := .long (gN_sheep n)) hC fl_X2_33 dX2_victim_1 h_n rfl ?_
  refine vv_iload_n hC 3 dX2_victim_4 rfl rfl ?_
  refine vv_callSN hC dX2_victim_5 md_X8_cell lk_n_X2_69 lk_t_X8_cell (As := [.long (gN_sheep n), .int p3]) (rest := []) (c_X8_cell g w0 (gN_sheep n) p3) rfl rfl (Nat.le_of_ble_eq_true rfl) ⟨by decide, by decide, by decide, by decide⟩ (fun r w9 hq => ?_)
  obtain ⟨rfl, rfl⟩ := hq
  show V g X 5 w0 0 0 8 [(0, .ref a_n), (1, .ref a_v), (2, .int p2), (3, .int p3)] [.int (f_X8_cell (gN_sheep n) p3)]
  refine vv_if_le hC 14 dX2_victim_8 (by decide) (fun c1 => ?_) (fun c1 => ?_)
  · have c1 : f_X8_cell (gN_sheep n) p3 ≤ 0 := c1
    refine vv_aload_n hC 0 dX2_victim_14 rfl rfl ?_
    refine vv_aload_n hC 1 dX2_victim_15 rfl rfl ?_
    refine vv_callV hC dX2_victim_16 md_X2_there lk_m_X2_84 lk_i_X2_there lk_s_X2_there h_n rfl (As := [.ref a_v]) (rest := []) (c_X2_there g w0 a_n a_v n v h_n h_v) rfl rfl (Nat.le_of_ble_eq_true rfl) ⟨by decide, by decide, by decide, by decide⟩ (fun r w9 hq => ?_)
    obtain ⟨rfl, rfl⟩ := hq
    show V g X 5 w0 0 0 19 [(0, .ref a_n), (1, .ref a_v), (2, .int p2), (3, .int p3)] [.int (f_X2_there n v)]
    refine vv_aload_n hC 1 dX2_victim_19 rfl rfl ?_
    refine vv_iload_n hC 3 dX2_victim_20 rfl rfl ?_
    refine vv_callV hC dX2_victim_21 md_X7_dwellers lk_m_X2_87 lk_i_X7_dwellers lk_s_X7_dwellers h_v rfl (As := [.int p3]) (rest := [.int (f_X2_there n v)]) (c_X7_dwellers g w0 a_v v p3 (by omega) (by omega) h_v) rfl rfl (Nat.le_of_ble_eq_true rfl) ⟨by decide, by decide, by decide, by decide⟩ (fun r w9 hq => ?_)
    obtain ⟨rfl, rfl⟩ := hq
    show V g X 5 w0 0 0 24 [(0, .ref a_n), (1, .ref a_v), (2, .int p2), (3, .int p3)] [.int (f_X7_dwellers v p3), .int (f_X2_there n v)]
    refine vv_iand hC dX2_victim_24 ?_
    refine vv_aload_n hC 0 dX2_victim_25 rfl rfl ?_
    refine vv_get (v := .int (gN_wolves n)) hC fl_X2_15 dX2_victim_26 h_n rfl ?_
    refine vv_iconst (v := (-1)) hC dX2_victim_29 (by decide) ?_
    refine vv_ixor hC dX2_victim_30 ?_
    refine vv_iand hC dX2_victim_31 ?_
    refine vv_aload_n hC 0 dX2_victim_32 rfl rfl ?_
    refine vv_get (v := .int (gN_bitten n)) hC fl_X2_18 dX2_victim_33 h_n rfl ?_
    refine vv_iconst (v := (-1)) hC dX2_victim_36 (by decide) ?_
    refine vv_ixor hC dX2_victim_37 ?_
    refine vv_iand hC dX2_victim_38 ?_
    refine vv_aload_n hC 1 dX2_victim_39 rfl rfl ?_
    refine vv_getN (v := .long (gVi_kin v)) hC fl_X2_90 dX2_victim_40 h_v rfl ?_
    refine vv_iload_n hC 2 dX2_victim_43 rfl rfl ?_
    refine vv_callSN hC dX2_victim_44 md_X8_cell lk_n_X2_69 lk_t_X8_cell (As := [.long (gVi_kin v), .int p2]) (rest := [.int (((f_X2_there n v &&& f_X7_dwellers v p3) &&& (gN_wolves n ^^^ (-1))) &&& (gN_bitten n ^^^ (-1)))]) (c_X8_cell g w0 (gVi_kin v) p2) rfl rfl (Nat.le_of_ble_eq_true rfl) ⟨by decide, by decide, by decide, by decide⟩ (fun r w9 hq => ?_)
    obtain ⟨rfl, rfl⟩ := hq
    show V g X 5 w0 0 0 47 [(0, .ref a_n), (1, .ref a_v), (2, .int p2), (3, .int p3)] [.int (f_X8_cell (gVi_kin v) p2), .int (((f_X2_there n v &&& f_X7_dwellers v p3) &&& (gN_wolves n ^^^ (-1))) &&& (gN_bitten n ^^^ (-1)))]
    refine vv_iconst (v := (-1)) hC dX2_victim_47 (by decide) ?_
    refine vv_ixor hC dX2_victim_48 ?_
    refine vv_iand hC dX2_victim_49 ?_
    refine vv_istore (lv2 := [(4, .int ((((f_X2_there n v &&& f_X7_dwellers v p3) &&& (gN_wolves n ^^^ (-1))) &&& (gN_bitten n ^^^ (-1))) &&& (f_X8_cell (gVi_kin v) p2 ^^^ (-1)))), (0, .ref a_n), (1, .ref a_v), (2, .int p2), (3, .int p3)]) hC dX2_victim_50 (by decide) rfl ?_
    refine vv_iload hC 0 dX2_victim_52 rfl ?_
    refine vv_iconst (v := 0) hC dX2_victim_54 (by decide) ?_
    refine vv_callSN hC dX2_victim_55 md_X8_bitNumbered lk_n_X2_93 lk_t_X8_bitNumbered (As := [.int ((((f_X2_there n v &&& f_X7_dwellers v p3) &&& (gN_wolves n ^^^ (-1))) &&& (gN_bitten n ^^^ (-1))) &&& (f_X8_cell (gVi_kin v) p2 ^^^ (-1))), .int 0]) (rest := []) (c_X8_bitNumbered g w0 ((((f_X2_there n v &&& f_X7_dwellers v p3) &&& (gN_wolves n ^^^ (-1))) &&& (gN_bitten n ^^^ (-1))) &&& (f_X8_cell (gVi_kin v) p2 ^^^ (-1))) 0) rfl rfl (Nat.le_of_ble_eq_true rfl) ⟨by decide, by decide, by decide, by decide⟩ (fun r w9 hq => ?_)
    obtain ⟨rfl, rfl⟩ := hq
    show V g X 5 w0 0 0 58 [(4, .int ((((f_X2_there n v &&& f_X7_dwellers v p3) &&& (gN_wolves n ^^^ (-1))) &&& (gN_bitten n ^^^ (-1))) &&& (f_X8_cell (gVi_kin v) p2 ^^^ (-1)))), (0, .ref a_n), (1, .ref a_v), (2, .int p2), (3, .int p3)] [.int (f_X8_bitNumbered ((((f_X2_there n v &&& f_X7_dwellers v p3) &&& (gN_wolves n ^^^ (-1))) &&& (gN_bitten n ^^^ (-1))) &&& (f_X8_cell (gVi_kin v) p2 ^^^ (-1))) 0)]
    have hf : (f_X2_victim n v p2 p3) = f_X8_bitNumbered ((((f_X2_there n v &&& f_X7_dwellers v p3) &&& (gN_wolves n ^^^ (-1))) &&& (gN_bitten n ^^^ (-1))) &&& (f_X8_cell (gVi_kin v) p2 ^^^ (-1))) 0 := by first | (simp only [f_X2_victim, if_pos c1]; done) | rfl | (simp only [f_X2_victim, if_pos c1]; rfl)
    refine vv_iret hC hR rfl dX2_victim_58 (by omega) (by omega) ?_
    rw [hf]
    exact ⟨rfl, rfl⟩
  · have c1 : ¬ (f_X8_cell (gN_sheep n) p3 ≤ 0) := c1
    refine vv_bipush (v := (-9)) hC dX2_victim_11 (by decide) ?_
    have hf : (f_X2_victim n v p2 p3) = (-9) := by first | (simp only [f_X2_victim, if_neg c1]; done) | rfl | (simp only [f_X2_victim, if_neg c1]; rfl)
    refine vv_iret hC hR rfl dX2_victim_13 (by omega) (by omega) ?_
    rw [hf]
    exact ⟨rfl, rfl⟩
def f_X2_walk (n : TN) (v : TVi) (p2 : Int32) (p3 : Int32) : Int32 × TN := (f_X2_victim n v p2 p3, sN_biters (sN_tracks (sN_sheep (sN_out (sN_bitten n (if f_X2_victim n v p2 p3 = (-9) then gN_bitten n else (gN_bitten n ||| f_X8_bit (f_X2_victim n v p2 p3)))) (gN_out n ||| f_X8_bit p2)) (if f_X8_cell (gN_sheep n) p3 ≤ 0 then gN_sheep n else f_X8_withCell (gN_sheep n) p3 (f_X8_cell (gN_sheep n) p3 - 1))) (if f_X8_has (f_X8_cell (gVi_wells v) (f_X8_cell (gVi_homes v) p2)) p3 = true then gN_tracks n else f_X8_withCell (gN_tracks n) p3 (f_X8_cell (gN_tracks n) p3 + 1))) (if f_X2_victim n v p2 p3 = (-9) then gN_biters n else f_X8_withCell (gN_biters n) (f_X2_victim n v p2 p3) (p2 + 1)))
set_option maxHeartbeats 4000000 in
set_option maxRecDepth 100000 in
theorem c_X2_walk (g : GT) (w0 : Wd) (a_n : Nat) (a_v : Nat) (n : TN) (v : TVi) (p2 : Int32) (p3 : Int32) (hvh : gVi_houses v ≤ 4) (hvp : gVi_people v ≤ 6) (h_n : w0 a_n = some (.inr (2, cN n))) (h_v : w0 a_v = some (.inr (7, cVi v))) : CT g yX2_walk cX2_walk 5 (some .int) 3 69 0 0 w0 [.ref a_n, .ref a_v, .int p2, .int p3] (fun r w2 => r = some (.int ((f_X2_walk n v p2 p3).1)) ∧ w2 a_n = some (.inr (2, cN ((f_X2_walk n v p2 p3).2))) ∧ wE (fun q => q = a_n) w0 w2) := by
  refine CT.of (own := RX2) (by decide +kernel) rfl (Nat.le_of_ble_eq_true rfl) (fun X hC hR hI => ?_)
  show V g X 5 w0 0 0 0 [(0, .ref a_n), (1, .ref a_v), (2, .int p2), (3, .int p3)] []
  have hE : wE (fun q => q = a_n) w0 w0 := wE.refl
  refine vv_aload_n hC 0 dX2_walk_0 rfl rfl ?_
  refine vv_aload_n hC 1 dX2_walk_1 rfl rfl ?_
  refine vv_iload_n hC 2 dX2_walk_2 rfl rfl ?_
  refine vv_iload_n hC 3 dX2_walk_3 rfl rfl ?_
  refine vv_callV hC dX2_walk_4 md_X2_victim lk_m_X2_97 lk_i_X2_victim lk_s_X2_victim h_n rfl (As := [.ref a_v, .int p2, .int p3]) (rest := []) (c_X2_victim g w0 a_n a_v n v p2 p3 (by omega) (by omega) h_n h_v) rfl rfl (Nat.le_of_ble_eq_true rfl) ⟨by decide, by decide, by decide, by decide⟩ (fun r w9 hq => ?_)
  obtain ⟨rfl, rfl⟩ := hq
  show V g X 5 w0 0 0 7 [(0, .ref a_n), (1, .ref a_v), (2, .int p2), (3, .int p3)] [.int (f_X2_victim n v p2 p3)]
  refine vv_istore (lv2 := [(4, .int (f_X2_victim n v p2 p3)), (0, .ref a_n), (1, .ref a_v), (2, .int p2), (3, .int p3)]) hC dX2_walk_7 (by decide) rfl ?_
  refine vv_aload_n hC 1 dX2_walk_9 rfl rfl ?_
  refine vv_dup hC dX2_walk_10 rfl ?_
  refine vv_get (v := .int (gN_out n)) hC fl_X2_24 dX2_walk_11 h_n rfl ?_
  refine vv_iload_n hC 3 dX2_walk_14 rfl rfl ?_
  refine vv_callSN hC dX2_walk_15 md_X8_bit lk_n_X2_63 lk_t_X8_bit (As := [.int p2]) (rest := [.int (gN_out n), .ref a_n]) (c_X8_bit g w0 p2) rfl rfl (Nat.le_of_ble_eq_true rfl) ⟨by decide, by decide, by decide, by decide⟩ (fun r w9 hq => ?_)
  obtain ⟨rfl, rfl⟩ := hq
  show V g X 5 w0 0 0 18 [(4, .int (f_X2_victim n v p2 p3)), (0, .ref a_n), (1, .ref a_v), (2, .int p2), (3, .int p3)] [.int (f_X8_bit p2), .int (gN_out n), .ref a_n]
  refine vv_ior hC dX2_walk_18 ?_
  refine vv_put hC fp_X2_24 dX2_walk_19 h_n rfl rfl (Nat.le_of_ble_eq_true rfl) (fun w1 t1 hs => ?_)
  have t1 : w1 a_n = some (.inr (2, cN (sN_out n (gN_out n ||| f_X8_bit p2)))) := t1.trans (congrArg (fun z => some (Sum.inr (2, z))) (eN_out _ _))
  have h_v := hs _ _ (fw_oo h_v h_n (by decide)) h_v
  have h_n := t1
  have hE := hE.trans (hs.mono (fun _ z => z))
  refine vv_aload_n hC 2 dX2_walk_22 rfl rfl ?_
  refine vv_getN (v := .long (gVi_wells v)) hC fl_X2_101 dX2_walk_23 h_v rfl ?_
  refine vv_aload_n hC 2 dX2_walk_26 rfl rfl ?_
  refine vv_getN (v := .long (gVi_homes v)) hC fl_X2_66 dX2_walk_27 h_v rfl ?_
  refine vv_iload_n hC 3 dX2_walk_30 rfl rfl ?_
  refine vv_callSN hC dX2_walk_31 md_X8_cell lk_n_X2_69 lk_t_X8_cell (As := [.long (gVi_homes v), .int p2]) (rest := [.long (gVi_wells v)]) (c_X8_cell g w1 (gVi_homes v) p2) rfl rfl (Nat.le_of_ble_eq_true rfl) ⟨by decide, by decide, by decide, by decide⟩ (fun r w9 hq => ?_)
  obtain ⟨rfl, rfl⟩ := hq
  show V g X 5 w1 0 0 34 [(4, .int (f_X2_victim n v p2 p3)), (0, .ref a_n), (1, .ref a_v), (2, .int p2), (3, .int p3)] [.int (f_X8_cell (gVi_homes v) p2), .long (gVi_wells v)]
  refine vv_callSN hC dX2_walk_34 md_X8_cell lk_n_X2_69 lk_t_X8_cell (As := [.long (gVi_wells v), .int (f_X8_cell (gVi_homes v) p2)]) (rest := []) (c_X8_cell g w1 (gVi_wells v) (f_X8_cell (gVi_homes v) p2)) rfl rfl (Nat.le_of_ble_eq_true rfl) ⟨by decide, by decide, by decide, by decide⟩ (fun r w9 hq => ?_)
  obtain ⟨rfl, rfl⟩ := hq
  show V g X 5 w1 0 0 37 [(4, .int (f_X2_victim n v p2 p3)), (0, .ref a_n), (1, .ref a_v), (2, .int p2), (3, .int p3)] [.int (f_X8_cell (gVi_wells v) (f_X8_cell (gVi_homes v) p2))]
  refine vv_iload_n hC 4 dX2_walk_37 rfl rfl ?_
  refine vv_callSN hC dX2_walk_38 md_X8_has lk_n_X2_59 lk_t_X8_has (As := [.int (f_X8_cell (gVi_wells v) (f_X8_cell (gVi_homes v) p2)), .int p3]) (rest := []) (c_X8_has g w1 (f_X8_cell (gVi_wells v) (f_X8_cell (gVi_homes v) p2)) p3) rfl rfl (Nat.le_of_ble_eq_true rfl) ⟨by decide, by decide, by decide, by decide⟩ (fun r w9 hq => ?_)
  obtain ⟨rfl, rfl⟩ := hq
  show V g X 5 w1 0 0 41 [(4, .int (f_X2_victim n v p2 p3)), (0, .ref a_n), (1, .ref a_v), (2, .int p2), (3, .int p3)] [.int (bI (f_X8_has (f_X8_cell (gVi_wells v) (f_X8_cell (gVi_homes v) p2)) p3))]
  have hJ3 : ∀ w5 : Wd, w5 a_n = some (.inr (2, cN (sN_tracks (sN_out n (gN_out n ||| f_X8_bit p2)) (if f_X8_has (f_X8_cell (gVi_wells v) (f_X8_cell (gVi_homes v) p2)) p3 = true then gN_tracks n else f_X8_withCell (gN_tracks n) p3 (f_X8_cell (gN_tracks n) p3 + 1))))) → w5 a_v = some (.inr (7, cVi v)) → wE (fun q => q = a_n) w0 w5 → V g X 5 w5 0 0 66 [(0, .ref a_n), (1, .ref a_v), (2, .int p2), (3, .int p3), (4, .int (f_X2_victim n v p2 p3))] [] := by
    intro w5 h_n h_v hE
    refine vv_aload_n hC 0 dX2_walk_66 rfl rfl ?_
    refine vv_get (v := .long (gN_sheep n)) hC fl_X2_33 dX2_walk_67 h_n rfl ?_
    refine vv_iload_n hC 3 dX2_walk_70 rfl rfl ?_
    refine vv_callSN hC dX2_walk_71 md_X8_cell lk_n_X2_69 lk_t_X8_cell (As := [.long (gN_sheep n), .int p3]) (rest := []) (c_X8_cell g w5 (gN_sheep n) p3) rfl rfl (Nat.le_of_ble_eq_true rfl) ⟨by decide, by decide, by decide, by decide⟩ (fun r w9 hq => ?_)
    obtain ⟨rfl, rfl⟩ := hq
    show V g X 5 w5 0 0 74 [(0, .ref a_n), (1, .ref a_v), (2, .int p2), (3, .int p3), (4, .int (f_X2_victim n v p2 p3))] [.int (f_X8_cell (gN_sheep n) p3)]
    have hJ7 : ∀ w9 : Wd, w9 a_n = some (.inr (2, cN (sN_tracks (sN_sheep (sN_out n (gN_out n ||| f_X8_bit p2)) (if f_X8_cell (gN_sheep n) p3 ≤ 0 then gN_sheep n else f_X8_withCell (gN_sheep n) p3 (f_X8_cell (gN_sheep n) p3 - 1))) (if f_X8_has (f_X8_cell (gVi_wells v) (f_X8_cell (gVi_homes v) p2)) p3 = true then gN_tracks n else f_X8_withCell (gN_tracks n) p3 (f_X8_cell (gN_tracks n) p3 + 1))))) → w9 a_v = some (.inr (7, cVi v)) → wE (fun q => q = a_n) w0 w9 → V g X 5 w9 0 0 99 [(0, .ref a_n), (1, .ref a_v), (2, .int p2), (3, .int p3), (4, .int (f_X2_victim n v p2 p3))] [] := by
      intro w9 h_n h_v hE
      refine vv_iload hC 4 dX2_walk_99 rfl ?_
      refine vv_bipush (v := (-9)) hC dX2_walk_101 (by decide) ?_
      have hJ11 : ∀ w14 : Wd, w14 a_n = some (.inr (2, cN (sN_biters (sN_tracks (sN_sheep (sN_out (sN_bitten n (if f_X2_victim n v p2 p3 = (-9) then gN_bitten n else (gN_bitten n ||| f_X8_bit (f_X2_victim n v p2 p3)))) (gN_out n ||| f_X8_bit p2)) (if f_X8_cell (gN_sheep n) p3 ≤ 0 then gN_sheep n else f_X8_withCell (gN_sheep n) p3 (f_X8_cell (gN_sheep n) p3 - 1))) (if f_X8_has (f_X8_cell (gVi_wells v) (f_X8_cell (gVi_homes v) p2)) p3 = true then gN_tracks n else f_X8_withCell (gN_tracks n) p3 (f_X8_cell (gN_tracks n) p3 + 1))) (if f_X2_victim n v p2 p3 = (-9) then gN_biters n else f_X8_withCell (gN_biters n) (f_X2_victim n v p2 p3) (p2 + 1))))) → w14 a_v = some (.inr (7, cVi v)) → wE (fun q => q = a_n) w0 w14 → V g X 5 w14 0 0 136 [(0, .ref a_n), (1, .ref a_v), (2, .int p2), (3, .int p3), (4, .int (f_X2_victim n v p2 p3))] [] := by
        intro w14 h_n h_v hE
        refine vv_iload hC 4 dX2_walk_136 rfl ?_
        have hf : (f_X2_walk n v p2 p3) = (f_X2_victim n v p2 p3, sN_biters (sN_tracks (sN_sheep (sN_out (sN_bitten n (if f_X2_victim n v p2 p3 = (-9) then gN_bitten n else (gN_bitten n ||| f_X8_bit (f_X2_victim n v p2 p3)))) (gN_out n ||| f_X8_bit p2)) (if f_X8_cell (gN_sheep n) p3 ≤ 0 then gN_sheep n else f_X8_withCell (gN_sheep n) p3 (f_X8_cell (gN_sheep n) p3 - 1))) (if f_X8_has (f_X8_cell (gVi_wells v) (f_X8_cell (gVi_homes v) p2)) p3 = true then gN_tracks n else f_X8_withCell (gN_tracks n) p3 (f_X8_cell (gN_tracks n) p3 + 1))) (if f_X2_victim n v p2 p3 = (-9) then gN_biters n else f_X8_withCell (gN_biters n) (f_X2_victim n v p2 p3) (p2 + 1))) := by first | (simp only [f_X2_walk]; done) | rfl | (simp only [f_X2_walk]; rfl)
        refine vv_iret hC hR rfl dX2_walk_138 (by omega) (by omega) ?_
        rw [hf]
        try dsimp only
        exact ⟨rfl, h_n, hE⟩
      refine vv_icmp_eq hC 136 dX2_walk_103 (by decide) (fun c10 => ?_) (fun c10 => ?_)
      · have c10 : f_X2_victim n v p2 p3 = (-9) := c10
        have hz := hJ11 w9
        try simp only [if_pos c10] at hz
        first | exact hz h_n h_v hE | (simp only [if_pos c10]; exact hz h_n h_v hE)
      · have c10 : ¬ (f_X2_victim n v p2 p3 = (-9)) := c10
        refine vv_aload_n hC 0 dX2_walk_106 rfl rfl ?_
        refine vv_dup hC dX2_walk_107 rfl ?_
        refine vv_get (v := .int (gN_bitten n)) hC fl_X2_18 dX2_walk_108 h_n rfl ?_
        refine vv_iload hC 4 dX2_walk_111 rfl ?_
        refine vv_callSN hC dX2_walk_113 md_X8_bit lk_n_X2_63 lk_t_X8_bit (As := [.int (f_X2_victim n v p2 p3)]) (rest := [.int (gN_bitten n), .ref a_n]) (c_X8_bit g w9 (f_X2_victim n v p2 p3)) rfl rfl (Nat.le_of_ble_eq_true rfl) ⟨by decide, by decide, by decide, by decide⟩ (fun r w9 hq => ?_)
        obtain ⟨rfl, rfl⟩ := hq
        show V g X 5 w9 0 0 116 [(0, .ref a_n), (1, .ref a_v), (2, .int p2), (3, .int p3), (4, .int (f_X2_victim n v p2 p3))] [.int (f_X8_bit (f_X2_victim n v p2 p3)), .int (gN_bitten n), .ref a_n]
        refine vv_ior hC dX2_walk_116 ?_
        refine vv_put hC fp_X2_18 dX2_walk_117 h_n rfl rfl (Nat.le_of_ble_eq_true rfl) (fun w12 t1 hs => ?_)
        have t1 : w12 a_n = some (.inr (2, cN (sN_bitten (sN_tracks (sN_sheep (sN_out n (gN_out n ||| f_X8_bit p2)) (if f_X8_cell (gN_sheep n) p3 ≤ 0 then gN_sheep n else f_X8_withCell (gN_sheep n) p3 (f_X8_cell (gN_sheep n) p3 - 1))) (if f_X8_has (f_X8_cell (gVi_wells v) (f_X8_cell (gVi_homes v) p2)) p3 = true then gN_tracks n else f_X8_withCell (gN_tracks n) p3 (f_X8_cell (gN_tracks n) p3 + 1))) (gN_bitten n ||| f_X8_bit (f_X2_victim n v p2 p3))))) := t1.trans (congrArg (fun z => some (Sum.inr (2, z))) (eN_bitten _ _))
        have h_v := hs _ _ (fw_oo h_v h_n (by decide)) h_v
        have h_n := t1
        have hE := hE.trans (hs.mono (fun _ z => z))
        refine vv_aload_n hC 0 dX2_walk_120 rfl rfl ?_
        refine vv_aload_n hC 0 dX2_walk_121 rfl rfl ?_
        refine vv_get (v := .long (gN_biters n)) hC fl_X2_40 dX2_walk_122 h_n rfl ?_
        refine vv_iload hC 4 dX2_walk_125 rfl ?_
        refine vv_iload_n hC 2 dX2_walk_127 rfl rfl ?_
        refine vv_iconst (v := 1) hC dX2_walk_128 (by decide) ?_
        refine vv_iadd hC dX2_walk_129 ?_
        refine vv_callSN hC dX2_walk_130 md_X8_withCell lk_n_X2_104 lk_t_X8_withCell (As := [.long (gN_biters n), .int (f_X2_victim n v p2 p3), .int (p2 + 1)]) (rest := [.ref a_n]) (c_X8_withCell g w12 (gN_biters n) (f_X2_victim n v p2 p3) (p2 + 1)) rfl rfl (Nat.le_of_ble_eq_true rfl) ⟨by decide, by decide, by decide, by decide⟩ (fun r w9 hq => ?_)
        obtain ⟨rfl, rfl⟩ := hq
        show V g X 5 w12 0 0 133 [(0, .ref a_n), (1, .ref a_v), (2, .int p2), (3, .int p3), (4, .int (f_X2_victim n v p2 p3))] [.long (f_X8_withCell (gN_biters n) (f_X2_victim n v p2 p3) (p2 + 1)), .ref a_n]
        refine vv_put hC fp_X2_40 dX2_walk_133 h_n rfl rfl (Nat.le_of_ble_eq_true rfl) (fun w13 t1 hs => ?_)
        have t1 : w13 a_n = some (.inr (2, cN (sN_biters (sN_bitten (sN_tracks (sN_sheep (sN_out n (gN_out n ||| f_X8_bit p2)) (if f_X8_cell (gN_sheep n) p3 ≤ 0 then gN_sheep n else f_X8_withCell (gN_sheep n) p3 (f_X8_cell (gN_sheep n) p3 - 1))) (if f_X8_has (f_X8_cell (gVi_wells v) (f_X8_cell (gVi_homes v) p2)) p3 = true then gN_tracks n else f_X8_withCell (gN_tracks n) p3 (f_X8_cell (gN_tracks n) p3 + 1))) (gN_bitten n ||| f_X8_bit (f_X2_victim n v p2 p3))) (f_X8_withCell (gN_biters n) (f_X2_victim n v p2 p3) (p2 + 1))))) := t1.trans (congrArg (fun z => some (Sum.inr (2, z))) (eN_biters _ _))
        have h_v := hs _ _ (fw_oo h_v h_n (by decide)) h_v
        have h_n := t1
        have hE := hE.trans (hs.mono (fun _ z => z))
        have hz := hJ11 w13
        try simp only [if_neg c10] at hz
        first | exact hz h_n h_v hE | (simp only [if_neg c10]; exact hz h_n h_v hE)
    refine vv_if_le hC 99 dX2_walk_74 (by decide) (fun c6 => ?_) (fun c6 => ?_)
    · have c6 : f_X8_cell (gN_sheep n) p3 ≤ 0 := c6
      have hz := hJ7 w5
      try simp only [if_pos c6] at hz
      first | exact hz h_n h_v hE | (simp only [if_pos c6]; exact hz h_n h_v hE)
    · have c6 : ¬ (f_X8_cell (gN_sheep n) p3 ≤ 0) := c6
      refine vv_aload_n hC 0 dX2_walk_77 rfl rfl ?_
      refine vv_aload_n hC 0 dX2_walk_78 rfl rfl ?_
      refine vv_get (v := .long (gN_sheep n)) hC fl_X2_33 dX2_walk_79 h_n rfl ?_
      refine vv_iload_n hC 3 dX2_walk_82 rfl rfl ?_
      refine vv_aload_n hC 0 dX2_walk_83 rfl rfl ?_
      refine vv_get (v := .long (gN_sheep n)) hC fl_X2_33 dX2_walk_84 h_n rfl ?_
      refine vv_iload_n hC 3 dX2_walk_87 rfl rfl ?_
      refine vv_callSN hC dX2_walk_88 md_X8_cell lk_n_X2_69 lk_t_X8_cell (As := [.long (gN_sheep n), .int p3]) (rest := [.int p3, .long (gN_sheep n), .ref a_n]) (c_X8_cell g w5 (gN_sheep n) p3) rfl rfl (Nat.le_of_ble_eq_true rfl) ⟨by decide, by decide, by decide, by decide⟩ (fun r w9 hq => ?_)
      obtain ⟨rfl, rfl⟩ := hq
      show V g X 5 w5 0 0 91 [(0, .ref a_n), (1, .ref a_v), (2, .int p2), (3, .int p3), (4, .int (f_X2_victim n v p2 p3))] [.int (f_X8_cell (gN_sheep n) p3), .int p3, .long (gN_sheep n), .ref a_n]
      refine vv_iconst (v := 1) hC dX2_walk_91 (by decide) ?_
      refine vv_isub hC dX2_walk_92 ?_
      refine vv_callSN hC dX2_walk_93 md_X8_withCell lk_n_X2_104 lk_t_X8_withCell (As := [.long (gN_sheep n), .int p3, .int (f_X8_cell (gN_sheep n) p3 - 1)]) (rest := [.ref a_n]) (c_X8_withCell g w5 (gN_sheep n) p3 (f_X8_cell (gN_sheep n) p3 - 1)) rfl rfl (Nat.le_of_ble_eq_true rfl) ⟨by decide, by decide, by decide, by decide⟩ (fun r w9 hq => ?_)
      obtain ⟨rfl, rfl⟩ := hq
      show V g X 5 w5 0 0 96 [(0, .ref a_n), (1, .ref a_v), (2, .int p2), (3, .int p3), (4, .int (f_X2_victim n v p2 p3))] [.long (f_X8_withCell (gN_sheep n) p3 (f_X8_cell (gN_sheep n) p3 - 1)), .ref a_n]
      refine vv_put hC fp_X2_33 dX2_walk_96 h_n rfl rfl (Nat.le_of_ble_eq_true rfl) (fun w8 t1 hs => ?_)
      have t1 : w8 a_n = some (.inr (2, cN (sN_sheep (sN_tracks (sN_out n (gN_out n ||| f_X8_bit p2)) (if f_X8_has (f_X8_cell (gVi_wells v) (f_X8_cell (gVi_homes v) p2)) p3 = true then gN_tracks n else f_X8_withCell (gN_tracks n) p3 (f_X8_cell (gN_tracks n) p3 + 1))) (f_X8_withCell (gN_sheep n) p3 (f_X8_cell (gN_sheep n) p3 - 1))))) := t1.trans (congrArg (fun z => some (Sum.inr (2, z))) (eN_sheep _ _))
      have h_v := hs _ _ (fw_oo h_v h_n (by decide)) h_v
      have h_n := t1
      have hE := hE.trans (hs.mono (fun _ z => z))
      have hz := hJ7 w8
      try simp only [if_neg c6] at hz
      first | exact hz h_n h_v hE | (simp only [if_neg c6]; exact hz h_n h_v hE)
  refine vv_if_ne hC 66 dX2_walk_41 (by decide) (fun c2 => ?_) (fun c2 => ?_)
  · have c2 : f_X8_has (f_X8_cell (gVi_wells v) (f_X8_cell (gVi_homes v) p2)) p3 = true := bI_t c2
    refine vv_lv [1, 2, 3, 4, 0] rfl ?_
    have hz := hJ3 w1
    try simp only [if_pos c2] at hz
    first | exact hz h_n h_v hE | (simp only [if_pos c2]; exact hz h_n h_v hE)
  · have c2 : ¬ (f_X8_has (f_X8_cell (gVi_wells v) (f_X8_cell (gVi_homes v) p2)) p3 = true) := bI_f c2
    refine vv_aload_n hC 1 dX2_walk_44 rfl rfl ?_
    refine vv_aload_n hC 1 dX2_walk_45 rfl rfl ?_
    refine vv_get (v := .long (gN_tracks n)) hC fl_X2_37 dX2_walk_46 h_n rfl ?_
    refine vv_iload_n hC 4 dX2_walk_49 rfl rfl ?_
    refine vv_aload_n hC 1 dX2_walk_50 rfl rfl ?_
    refine vv_get (v := .long (gN_tracks n)) hC fl_X2_37 dX2_walk_51 h_n rfl ?_
    refine vv_iload_n hC 4 dX2_walk_54 rfl rfl ?_
    refine vv_callSN hC dX2_walk_55 md_X8_cell lk_n_X2_69 lk_t_X8_cell (As := [.long (gN_tracks n), .int p3]) (rest := [.int p3, .long (gN_tracks n), .ref a_n]) (c_X8_cell g w1 (gN_tracks n) p3) rfl rfl (Nat.le_of_ble_eq_true rfl) ⟨by decide, by decide, by decide, by decide⟩ (fun r w9 hq => ?_)
    obtain ⟨rfl, rfl⟩ := hq
    show V g X 5 w1 0 0 58 [(4, .int (f_X2_victim n v p2 p3)), (0, .ref a_n), (1, .ref a_v), (2, .int p2), (3, .int p3)] [.int (f_X8_cell (gN_tracks n) p3), .int p3, .long (gN_tracks n), .ref a_n]
    refine vv_iconst (v := 1) hC dX2_walk_58 (by decide) ?_
    refine vv_iadd hC dX2_walk_59 ?_
    refine vv_callSN hC dX2_walk_60 md_X8_withCell lk_n_X2_104 lk_t_X8_withCell (As := [.long (gN_tracks n), .int p3, .int (f_X8_cell (gN_tracks n) p3 + 1)]) (rest := [.ref a_n]) (c_X8_withCell g w1 (gN_tracks n) p3 (f_X8_cell (gN_tracks n) p3 + 1)) rfl rfl (Nat.le_of_ble_eq_true rfl) ⟨by decide, by decide, by decide, by decide⟩ (fun r w9 hq => ?_)
    obtain ⟨rfl, rfl⟩ := hq
    show V g X 5 w1 0 0 63 [(4, .int (f_X2_victim n v p2 p3)), (0, .ref a_n), (1, .ref a_v), (2, .int p2), (3, .int p3)] [.long (f_X8_withCell (gN_tracks n) p3 (f_X8_cell (gN_tracks n) p3 + 1)), .ref a_n]
    refine vv_put hC fp_X2_37 dX2_walk_63 h_n rfl rfl (Nat.le_of_ble_eq_true rfl) (fun w4 t1 hs => ?_)
    have t1 : w4 a_n = some (.inr (2, cN (sN_tracks (sN_out n (gN_out n ||| f_X8_bit p2)) (f_X8_withCell (gN_tracks n) p3 (f_X8_cell (gN_tracks n) p3 + 1))))) := t1.trans (congrArg (fun z => some (Sum.inr (2, z))) (eN_tracks _ _))
    have h_v := hs _ _ (fw_oo h_v h_n (by decide)) h_v
    have h_n := t1
    have hE := hE.trans (hs.mono (fun _ z => z))
    refine vv_lv [1, 2, 3, 4, 0] rfl ?_
    have hz := hJ3 w4
    try simp only [if_neg c2] at hz
    first | exact hz h_n h_v hE | (simp only [if_neg c2]; exact hz h_n h_v hE)
def f_X2_nextNight (n : TN) : Int32 × TN := ((gN_bitten n &&& (gN_wolves n ^^^ (-1))), sN_number (sN_tracks (sN_out (sN_bitten (sN_wolves n (gN_wolves n ||| gN_bitten n)) 0) 0) 0) (gN_number n + 1))
set_option maxHeartbeats 4000000 in
set_option maxRecDepth 100000 in
theorem c_X2_nextNight (g : GT) (w0 : Wd) (a_n : Nat) (n : TN) (h_n : w0 a_n = some (.inr (2, cN n))) : CT g yX2_nextNight cX2_nextNight 2 (some .int) 0 0 0 0 w0 [.ref a_n] (fun r w2 => r = some (.int ((f_X2_nextNight n).1)) ∧ w2 a_n = some (.inr (2, cN ((f_X2_nextNight n).2))) ∧ wE (fun q => q = a_n) w0 w2) := by
  refine CT.of (own := RX2) (by decide +kernel) rfl (Nat.le_of_ble_eq_true rfl) (fun X hC hR hI => ?_)
  show V g X 2 w0 0 0 0 [(0, .ref a_n)] []
  have hE : wE (fun q => q = a_n) w0 w0 := wE.refl
  refine vv_aload_n hC 0 dX2_nextNight_0 rfl rfl ?_
  refine vv_get (v := .int (gN_bitten n)) hC fl_X2_18 dX2_nextNight_1 h_n rfl ?_
  refine vv_aload_n hC 0 dX2_nextNight_4 rfl rfl ?_
  refine vv_get (v := .int (gN_wolves n)) hC fl_X2_15 dX2_nextNight_5 h_n rfl ?_
  refine vv_iconst (v := (-1)) hC dX2_nextNight_8 (by decide) ?_
  refine vv_ixor hC dX2_nextNight_9 ?_
  refine vv_iand hC dX2_nextNight_10 ?_
  refine vv_istore_n (lv2 := [(1, .int (gN_bitten n &&& (gN_wolves n ^^^ (-1)))), (0, .ref a_n)]) hC dX2_nextNight_11 rfl (by decide) rfl ?_
  refine vv_aload_n hC 1 dX2_nextNight_12 rfl rfl ?_
  refine vv_dup hC dX2_nextNight_13 rfl ?_
  refine vv_get (v := .int (gN_wolves n)) hC fl_X2_15 dX2_nextNight_14 h_n rfl ?_
  refine vv_aload_n hC 1 dX2_nextNight_17 rfl rfl ?_
  refine vv_get (v := .int (gN_bitten n)) hC fl_X2_18 dX2_nextNight_18 h_n rfl ?_
  refine vv_ior hC dX2_nextNight_21 ?_
  refine vv_put hC fp_X2_15 dX2_nextNight_22 h_n rfl rfl (Nat.le_of_ble_eq_true rfl) (fun w1 t1 hs => ?_)
  have t1 : w1 a_n = some (.inr (2, cN (sN_wolves n (gN_wolves n ||| gN_bitten n)))) := t1.trans (congrArg (fun z => some (Sum.inr (2, z))) (eN_wolves _ _))
  have h_n := t1
  have hE := hE.trans (hs.mono (fun _ z => z))
  refine vv_aload_n hC 1 dX2_nextNight_25 rfl rfl ?_
  refine vv_iconst (v := 0) hC dX2_nextNight_26 (by decide) ?_
  refine vv_put hC fp_X2_18 dX2_nextNight_27 h_n rfl rfl (Nat.le_of_ble_eq_true rfl) (fun w2 t1 hs => ?_)
  have t1 : w2 a_n = some (.inr (2, cN (sN_bitten (sN_wolves n (gN_wolves n ||| gN_bitten n)) 0))) := t1.trans (congrArg (fun z => some (Sum.inr (2, z))) (eN_bitten _ _))
  have h_n := t1
  have hE := hE.trans (hs.mono (fun _ z => z))
  refine vv_aload_n hC 1 dX2_nextNight_30 rfl rfl ?_
  refine vv_iconst (v := 0) hC dX2_nextNight_31 (by decide) ?_
  refine vv_put hC fp_X2_24 dX2_nextNight_32 h_n rfl rfl (Nat.le_of_ble_eq_true rfl) (fun w3 t1 hs => ?_)
  have t1 : w3 a_n = some (.inr (2, cN (sN_out (sN_bitten (sN_wolves n (gN_wolves n ||| gN_bitten n)) 0) 0))) := t1.trans (congrArg (fun z => some (Sum.inr (2, z))) (eN_out _ _))
  have h_n := t1
  have hE := hE.trans (hs.mono (fun _ z => z))
  refine vv_aload_n hC 1 dX2_nextNight_35 rfl rfl ?_
  refine vv_lconst (v := 0) hC dX2_nextNight_36 (by decide) ?_
  refine vv_put hC fp_X2_37 dX2_nextNight_37 h_n rfl rfl (Nat.le_of_ble_eq_true rfl) (fun w4 t1 hs => ?_)
  have t1 : w4 a_n = some (.inr (2, cN (sN_tracks (sN_out (sN_bitten (sN_wolves n (gN_wolves n ||| gN_bitten n)) 0) 0) 0))) := t1.trans (congrArg (fun z => some (Sum.inr (2, z))) (eN_tracks _ _))
  have h_n := t1
  have hE := hE.trans (hs.mono (fun _ z => z))
  refine vv_aload_n hC 1 dX2_nextNight_40 rfl rfl ?_
  refine vv_dup hC dX2_nextNight_41 rfl ?_
  refine vv_get (v := .int (gN_number n)) hC fl_X2_9 dX2_nextNight_42 h_n rfl ?_
  refine vv_iconst (v := 1) hC dX2_nextNight_45 (by decide) ?_
  refine vv_iadd hC dX2_nextNight_46 ?_
  refine vv_put hC fp_X2_9 dX2_nextNight_47 h_n rfl rfl (Nat.le_of_ble_eq_true rfl) (fun w5 t1 hs => ?_)
  have t1 : w5 a_n = some (.inr (2, cN (sN_number (sN_tracks (sN_out (sN_bitten (sN_wolves n (gN_wolves n ||| gN_bitten n)) 0) 0) 0) (gN_number n + 1)))) := t1.trans (congrArg (fun z => some (Sum.inr (2, z))) (eN_number _ _))
  have h_n := t1
  have hE := hE.trans (hs.mono (fun _ z => z))
  refine vv_iload_n hC 0 dX2_nextNight_50 rfl rfl ?_
  have hf : (f_X2_nextNight n) = ((gN_bitten n &&& (gN_wolves n ^^^ (-1))), sN_number (sN_tracks (sN_out (sN_bitten (sN_wolves n (gN_wolves n ||| gN_bitten n)) 0) 0) 0) (gN_number n + 1)) := by first | (simp only [f_X2_nextNight]; done) | rfl | (simp only [f_X2_nextNight]; rfl)
  refine vv_iret hC hR rfl dX2_nextNight_51 (by omega) (by omega) ?_
  rw [hf]
  try dsimp only
  exact ⟨rfl, h_n, hE⟩
def f_X2_biterOf (n : TN) (p1 : Int32) : Int32 := (if f_X8_cell (gN_biters n) p1 = 0 then (-9 : Int32) else (f_X8_cell (gN_biters n) p1 - 1))
set_option maxHeartbeats 4000000 in
set_option maxRecDepth 100000 in
theorem c_X2_biterOf (g : GT) (w0 : Wd) (a_n : Nat) (n : TN) (p1 : Int32) (h_n : w0 a_n = some (.inr (2, cN n))) : CT g yX2_biterOf cX2_biterOf 3 (some .int) 1 22 0 0 w0 [.ref a_n, .int p1] (fun r w2 => r = some (.int (f_X2_biterOf n p1)) ∧ w0 = w2) := by
  refine CT.of (own := RX2) (by decide +kernel) rfl (Nat.le_of_ble_eq_true rfl) (fun X hC hR hI => ?_)
  show V g X 3 w0 0 0 0 [(0, .ref a_n), (1, .int p1)] []
  refine vv_aload_n hC 0 dX2_biterOf_0 rfl rfl ?_
  refine vv_get (v := .long (gN_biters n)) hC fl_X2_40 dX2_biterOf_1 h_n rfl ?_
  refine vv_iload_n hC 1 dX2_biterOf_4 rfl rfl ?_
  refine vv_callSN hC dX2_biterOf_5 md_X8_cell lk_n_X2_69 lk_t_X8_cell (As := [.long (gN_biters n), .int p1]) (rest := []) (c_X8_cell g w0 (gN_biters n) p1) rfl rfl (Nat.le_of_ble_eq_true rfl) ⟨by decide, by decide, by decide, by decide⟩ (fun r w9 hq => ?_)
  obtain ⟨rfl, rfl⟩ := hq
  show V g X 3 w0 0 0 8 [(0, .ref a_n), (1, .int p1)] [.int (f_X8_cell (gN_biters n) p1)]
  refine vv_istore_n (lv2 := [(2, .int (f_X8_cell (gN_biters n) p1)), (0, .ref a_n), (1, .int p1)]) hC dX2_biterOf_8 rfl (by decide) rfl ?_
  refine vv_iload_n hC 0 dX2_biterOf_9 rfl rfl ?_
  have hJ2 : V g X 3 w0 0 0 21 [(0, .ref a_n), (1, .int p1), (2, .int (f_X8_cell (gN_biters n) p1))] [.int (if f_X8_cell (gN_biters n) p1 = 0 then (-9 : Int32) else (f_X8_cell (gN_biters n) p1 - 1))] := by
    have hf : (f_X2_biterOf n p1) = (if f_X8_cell (gN_biters n) p1 = 0 then (-9 : Int32) else (f_X8_cell (gN_biters n) p1 - 1)) := by first | (simp only [f_X2_biterOf]; done) | rfl | (simp only [f_X2_biterOf]; rfl)
    refine vv_iret hC hR rfl dX2_biterOf_21 (by omega) (by omega) ?_
    rw [hf]
    exact ⟨rfl, rfl⟩
  refine vv_if_ne hC 18 dX2_biterOf_10 (by decide) (fun c1 => ?_) (fun c1 => ?_)
  · have c1 : ¬ (f_X8_cell (gN_biters n) p1 = 0) := c1
    refine vv_iload_n hC 0 dX2_biterOf_18 rfl rfl ?_
    refine vv_iconst (v := 1) hC dX2_biterOf_19 (by decide) ?_
    refine vv_isub hC dX2_biterOf_20 ?_
    refine vv_lv [1, 2, 0] rfl ?_
    have hz := hJ2
    try simp only [if_neg c1] at hz
    first | exact hz | (simp only [if_neg c1]; exact hz)
  · have c1 : f_X8_cell (gN_biters n) p1 = 0 := c1
    refine vv_bipush (v := (-9)) hC dX2_biterOf_13 (by decide) ?_
    refine vv_goto hC 21 dX2_biterOf_15 (by decide) ?_
    refine vv_lv [1, 2, 0] rfl ?_
    have hz := hJ2
    try simp only [if_pos c1] at hz
    first | exact hz | (simp only [if_pos c1]; exact hz)
def f_X2_firstOf_L4 (n : TN) : Nat → Nat → Int32 → Int32
  | 0, k4, l2_4 => l2_4
  | r4 + 1, k4, l2_4 => (if f_X2_biterOf n l2_4 = (-9) then l2_4 else f_X2_firstOf_L4 n r4 (k4 + 1) (f_X2_biterOf n l2_4))
def f_X2_firstOf (n : TN) (p1 : Int32) : Int32 := (f_X2_firstOf_L4 n 6 0 p1)
set_option maxHeartbeats 4000000 in
set_option maxRecDepth 100000 in
theorem c_X2_firstOf (g : GT) (w0 : Wd) (a_n : Nat) (n : TN) (p1 : Int32) (h_n : w0 a_n = some (.inr (2, cN n))) : CT g yX2_firstOf cX2_firstOf 4 (some .int) 2 44 0 0 w0 [.ref a_n, .int p1] (fun r w2 => r = some (.int (f_X2_firstOf n p1)) ∧ w0 = w2) := by
  refine CT.of (own := RX2) (by decide +kernel) rfl (Nat.le_of_ble_eq_true rfl) (fun X hC hR hI => ?_)
  show V g X 4 w0 0 0 0 [(0, .ref a_n), (1, .int p1)] []
  refine vv_iload_n hC 1 dX2_firstOf_0 rfl rfl ?_
  refine vv_istore_n (lv2 := [(2, .int p1), (0, .ref a_n), (1, .int p1)]) hC dX2_firstOf_1 rfl (by decide) rfl ?_
  refine vv_iconst (v := 0) hC dX2_firstOf_2 (by decide) ?_
  refine vv_istore_n (lv2 := [(3, .int 0), (2, .int p1), (0, .ref a_n), (1, .int p1)]) hC dX2_firstOf_3 rfl (by decide) rfl ?_
  have hL2 : ∀ (r4 k4 : Nat) (l2_4 : Int32) (out : Int32), k4 + r4 = 6 → out = f_X2_firstOf_L4 n r4 k4 l2_4 → V g X 4 w0 0 0 32 [(0, .ref a_n), (1, .int p1), (2, .int out)] [] → V g X 4 w0 0 0 4 [(0, .ref a_n), (1, .int p1), (2, .int l2_4), (3, .int (nI k4))] [] := by
    intro r4
    induction r4 with
    | zero =>
      intro k4 l2_4 out hb ho hk
      refine vv_iload_n hC 3 dX2_firstOf_4 rfl rfl ?_
      refine vv_bipush (v := (6)) hC dX2_firstOf_5 (by decide) ?_
      refine vv_icmp_ge hC 32 dX2_firstOf_7 (by decide) (fun c => ?_) (fun c => False.elim (c ((nI_le_ (a := 6) (b := k4) (by omega) (by omega)).mpr (by omega))))
      refine vv_lv [0, 1, 2] rfl ?_
      have ho := ho.trans (by first | (simp only [f_X2_firstOf_L4]; done) | rfl | (simp only [f_X2_firstOf_L4]; rfl) : _ = l2_4)
      subst ho
      exact hk
    | succ r4 ih =>
      intro k4 l2_4 out hb ho hk
      refine vv_iload_n hC 3 dX2_firstOf_4 rfl rfl ?_
      refine vv_bipush (v := (6)) hC dX2_firstOf_5 (by decide) ?_
      refine vv_icmp_ge hC 32 dX2_firstOf_7 (by decide) (fun c => absurd ((nI_le_ (a := 6) (b := k4) (by omega) (by omega)).mp c) (by first | omega | decide)) (fun c => ?_)
      refine vv_aload_n hC 0 dX2_firstOf_10 rfl rfl ?_
      refine vv_iload_n hC 2 dX2_firstOf_11 rfl rfl ?_
      refine vv_callV hC dX2_firstOf_12 md_X2_biterOf lk_m_X2_108 lk_i_X2_biterOf lk_s_X2_biterOf h_n rfl (As := [.int l2_4]) (rest := []) (c_X2_biterOf g w0 a_n n l2_4 h_n) rfl rfl (Nat.le_of_ble_eq_true rfl) ⟨by decide, by decide, by decide, by decide⟩ (fun r w9 hq => ?_)
      obtain ⟨rfl, rfl⟩ := hq
      show V g X 4 w0 0 0 15 [(0, .ref a_n), (1, .int p1), (2, .int l2_4), (3, .int (nI k4))] [.int (f_X2_biterOf n l2_4)]
      refine vv_bipush (v := (-9)) hC dX2_firstOf_15 (by decide) ?_
      refine vv_icmp_eq hC 32 dX2_firstOf_17 (by decide) (fun c1 => ?_) (fun c1 => ?_)
      · have c1 : f_X2_biterOf n l2_4 = (-9) := c1
        refine vv_lv [0, 1, 2] rfl ?_
        have ho := ho.trans (by first | (simp only [f_X2_firstOf_L4, if_pos c1]; done) | rfl | (simp only [f_X2_firstOf_L4, if_pos c1]; rfl) : _ = l2_4)
        subst ho
        exact hk
      · have c1 : ¬ (f_X2_biterOf n l2_4 = (-9)) := c1
        refine vv_aload_n hC 0 dX2_firstOf_20 rfl rfl ?_
        refine vv_iload_n hC 2 dX2_firstOf_21 rfl rfl ?_
        refine vv_callV hC dX2_firstOf_22 md_X2_biterOf lk_m_X2_108 lk_i_X2_biterOf lk_s_X2_biterOf h_n rfl (As := [.int l2_4]) (rest := []) (c_X2_biterOf g w0 a_n n l2_4 h_n) rfl rfl (Nat.le_of_ble_eq_true rfl) ⟨by decide, by decide, by decide, by decide⟩ (fun r w9 hq => ?_)
        obtain ⟨rfl, rfl⟩ := hq
        show V g X 4 w0 0 0 25 [(0, .ref a_n), (1, .int p1), (2, .int l2_4), (3, .int (nI k4))] [.int (f_X2_biterOf n l2_4)]
        refine vv_istore_n (lv2 := [(2, .int (f_X2_biterOf n l2_4)), (0, .ref a_n), (1, .int p1), (3, .int (nI k4))]) hC dX2_firstOf_25 rfl (by decide) rfl ?_
        refine vv_iinc (lv2 := [(3, .int (nI (k4 + 1))), (2, .int (f_X2_biterOf n l2_4)), (0, .ref a_n), (1, .int p1)]) hC 3 dX2_firstOf_26 rfl (nI_add k4 1) (by decide) rfl ?_
        refine vv_goto hC 4 dX2_firstOf_29 (by decide) ?_
        refine vv_lv [2, 3, 1, 0] rfl ?_
        exact ih (k4 + 1) (f_X2_biterOf n l2_4) out (by omega) (ho.trans (by first | (simp only [f_X2_firstOf_L4, if_neg c1]; done) | rfl | (simp only [f_X2_firstOf_L4, if_neg c1]; rfl))) hk
  refine vv_lv [2, 3, 1, 0] rfl ?_
  refine hL2 6 0 p1 (f_X2_firstOf_L4 n 6 0 p1) (by omega) rfl ?_
  refine vv_iload_n hC 2 dX2_firstOf_32 rfl rfl ?_
  have hf : (f_X2_firstOf n p1) = (f_X2_firstOf_L4 n 6 0 p1) := by first | (simp only [f_X2_firstOf]; done) | rfl | (simp only [f_X2_firstOf]; rfl)
  refine vv_iret hC hR rfl dX2_firstOf_33 (by omega) (by omega) ?_
  rw [hf]
  exact ⟨rfl, rfl⟩
def f_X2_bitesAhead_L7 (n : TN) : Nat → Nat → Int32 → Int32 → Int32 × Int32
  | 0, k7, l2_7, l3_7 => (l2_7, l3_7)
  | r7 + 1, k7, l2_7, l3_7 => (if f_X2_biterOf n l2_7 = (-9) then (l2_7, l3_7) else f_X2_bitesAhead_L7 n r7 (k7 + 1) (f_X2_biterOf n l2_7) (l3_7 + 1))
def f_X2_bitesAhead (n : TN) (p1 : Int32) : Int32 := (f_X2_bitesAhead_L7 n 6 0 p1 0).2
set_option maxHeartbeats 4000000 in
set_option maxRecDepth 100000 in
theorem c_X2_bitesAhead (g : GT) (w0 : Wd) (a_n : Nat) (n : TN) (p1 : Int32) (h_n : w0 a_n = some (.inr (2, cN n))) : CT g yX2_bitesAhead cX2_bitesAhead 5 (some .int) 2 44 0 0 w0 [.ref a_n, .int p1] (fun r w2 => r = some (.int (f_X2_bitesAhead n p1)) ∧ w0 = w2) := by
  refine CT.of (own := RX2) (by decide +kernel) rfl (Nat.le_of_ble_eq_true rfl) (fun X hC hR hI => ?_)
  show V g X 5 w0 0 0 0 [(0, .ref a_n), (1, .int p1)] []
  refine vv_iload_n hC 1 dX2_bitesAhead_0 rfl rfl ?_
  refine vv_istore_n (lv2 := [(2, .int p1), (0, .ref a_n), (1, .int p1)]) hC dX2_bitesAhead_1 rfl (by decide) rfl ?_
  refine vv_iconst (v := 0) hC dX2_bitesAhead_2 (by decide) ?_
  refine vv_istore_n (lv2 := [(3, .int 0), (2, .int p1), (0, .ref a_n), (1, .int p1)]) hC dX2_bitesAhead_3 rfl (by decide) rfl ?_
  refine vv_iconst (v := 0) hC dX2_bitesAhead_4 (by decide) ?_
  refine vv_istore (lv2 := [(4, .int 0), (3, .int 0), (2, .int p1), (0, .ref a_n), (1, .int p1)]) hC dX2_bitesAhead_5 (by decide) rfl ?_
  have hL2 : ∀ (r7 k7 : Nat) (l2_7 : Int32) (l3_7 : Int32) (out : Int32 × Int32), k7 + r7 = 6 → out = f_X2_bitesAhead_L7 n r7 k7 l2_7 l3_7 → V g X 5 w0 0 0 39 [(0, .ref a_n), (1, .int p1), (2, .int out.1), (3, .int out.2)] [] → V g X 5 w0 0 0 7 [(0, .ref a_n), (1, .int p1), (2, .int l2_7), (3, .int l3_7), (4, .int (nI k7))] [] := by
    intro r7
    induction r7 with
    | zero =>
      intro k7 l2_7 l3_7 out hb ho hk
      refine vv_iload hC 4 dX2_bitesAhead_7 rfl ?_
      refine vv_bipush (v := (6)) hC dX2_bitesAhead_9 (by decide) ?_
      refine vv_icmp_ge hC 39 dX2_bitesAhead_11 (by decide) (fun c => ?_) (fun c => False.elim (c ((nI_le_ (a := 6) (b := k7) (by omega) (by omega)).mpr (by omega))))
      refine vv_lv [0, 1, 2, 3] rfl ?_
      have ho := ho.trans (by first | (simp only [f_X2_bitesAhead_L7]; done) | rfl | (simp only [f_X2_bitesAhead_L7]; rfl) : _ = (l2_7, l3_7))
      subst ho
      exact hk
    | succ r7 ih =>
      intro k7 l2_7 l3_7 out hb ho hk
      refine vv_iload hC 4 dX2_bitesAhead_7 rfl ?_
      refine vv_bipush (v := (6)) hC dX2_bitesAhead_9 (by decide) ?_
      refine vv_icmp_ge hC 39 dX2_bitesAhead_11 (by decide) (fun c => absurd ((nI_le_ (a := 6) (b := k7) (by omega) (by omega)).mp c) (by first | omega | decide)) (fun c => ?_)
      refine vv_aload_n hC 0 dX2_bitesAhead_14 rfl rfl ?_
      refine vv_iload_n hC 2 dX2_bitesAhead_15 rfl rfl ?_
      refine vv_callV hC dX2_bitesAhead_16 md_X2_biterOf lk_m_X2_108 lk_i_X2_biterOf lk_s_X2_biterOf h_n rfl (As := [.int l2_7]) (rest := []) (c_X2_biterOf g w0 a_n n l2_7 h_n) rfl rfl (Nat.le_of_ble_eq_true rfl) ⟨by decide, by decide, by decide, by decide⟩ (fun r w9 hq => ?_)
      obtain ⟨rfl, rfl⟩ := hq
      show V g X 5 w0 0 0 19 [(0, .ref a_n), (1, .int p1), (2, .int l2_7), (3, .int l3_7), (4, .int (nI k7))] [.int (f_X2_biterOf n l2_7)]
      refine vv_bipush (v := (-9)) hC dX2_bitesAhead_19 (by decide) ?_
      refine vv_icmp_eq hC 39 dX2_bitesAhead_21 (by decide) (fun c1 => ?_) (fun c1 => ?_)
      · have c1 : f_X2_biterOf n l2_7 = (-9) := c1
        refine vv_lv [0, 1, 2, 3] rfl ?_
        have ho := ho.trans (by first | (simp only [f_X2_bitesAhead_L7, if_pos c1]; done) | rfl | (simp only [f_X2_bitesAhead_L7, if_pos c1]; rfl) : _ = (l2_7, l3_7))
        subst ho
        exact hk
      · have c1 : ¬ (f_X2_biterOf n l2_7 = (-9)) := c1
        refine vv_aload_n hC 0 dX2_bitesAhead_24 rfl rfl ?_
        refine vv_iload_n hC 2 dX2_bitesAhead_25 rfl rfl ?_
        refine vv_callV hC dX2_bitesAhead_26 md_X2_biterOf lk_m_X2_108 lk_i_X2_biterOf lk_s_X2_biterOf h_n rfl (As := [.int l2_7]) (rest := []) (c_X2_biterOf g w0 a_n n l2_7 h_n) rfl rfl (Nat.le_of_ble_eq_true rfl) ⟨by decide, by decide, by decide, by decide⟩ (fun r w9 hq => ?_)
        obtain ⟨rfl, rfl⟩ := hq
        show V g X 5 w0 0 0 29 [(0, .ref a_n), (1, .int p1), (2, .int l2_7), (3, .int l3_7), (4, .int (nI k7))] [.int (f_X2_biterOf n l2_7)]
        refine vv_istore_n (lv2 := [(2, .int (f_X2_biterOf n l2_7)), (0, .ref a_n), (1, .int p1), (3, .int l3_7), (4, .int (nI k7))]) hC dX2_bitesAhead_29 rfl (by decide) rfl ?_
        refine vv_iinc (lv2 := [(3, .int (l3_7 + 1)), (2, .int (f_X2_biterOf n l2_7)), (0, .ref a_n), (1, .int p1), (4, .int (nI k7))]) hC 3 dX2_bitesAhead_30 rfl rfl (by decide) rfl ?_
        refine vv_iinc (lv2 := [(4, .int (nI (k7 + 1))), (3, .int (l3_7 + 1)), (2, .int (f_X2_biterOf n l2_7)), (0, .ref a_n), (1, .int p1)]) hC 4 dX2_bitesAhead_33 rfl (nI_add k7 1) (by decide) rfl ?_
        refine vv_goto hC 7 dX2_bitesAhead_36 (by decide) ?_
        refine vv_lv [3, 4, 2, 1, 0] rfl ?_
        exact ih (k7 + 1) (f_X2_biterOf n l2_7) (l3_7 + 1) out (by omega) (ho.trans (by first | (simp only [f_X2_bitesAhead_L7, if_neg c1]; done) | rfl | (simp only [f_X2_bitesAhead_L7, if_neg c1]; rfl))) hk
  refine vv_lv [3, 4, 2, 1, 0] rfl ?_
  refine hL2 6 0 p1 0 (f_X2_bitesAhead_L7 n 6 0 p1 0) (by omega) rfl ?_
  refine vv_iload_n hC 3 dX2_bitesAhead_39 rfl rfl ?_
  have hf : (f_X2_bitesAhead n p1) = (f_X2_bitesAhead_L7 n 6 0 p1 0).2 := by first | (simp only [f_X2_bitesAhead]; done) | rfl | (simp only [f_X2_bitesAhead]; rfl)
  refine vv_iret hC hR rfl dX2_bitesAhead_40 (by omega) (by omega) ?_
  rw [hf]
  exact ⟨rfl, rfl⟩
def f_X2_allSheep_L4 (n : TN) : Nat → Nat → Int32 → Int32
  | 0, k4, l1_4 => l1_4
  | r4 + 1, k4, l1_4 => f_X2_allSheep_L4 n r4 (k4 + 1) (l1_4 + f_X8_cell (gN_sheep n) (nI k4))
def f_X2_allSheep (n : TN) : Int32 := (f_X2_allSheep_L4 n 4 0 0)
set_option maxHeartbeats 4000000 in
set_option maxRecDepth 100000 in
theorem c_X2_allSheep (g : GT) (w0 : Wd) (a_n : Nat) (n : TN) (h_n : w0 a_n = some (.inr (2, cN n))) : CT g yX2_allSheep cX2_allSheep 3 (some .int) 1 22 0 0 w0 [.ref a_n] (fun r w2 => r = some (.int (f_X2_allSheep n)) ∧ w0 = w2) := by
  refine CT.of (own := RX2) (by decide +kernel) rfl (Nat.le_of_ble_eq_true rfl) (fun X hC hR hI => ?_)
  show V g X 3 w0 0 0 0 [(0, .ref a_n)] []
  refine vv_iconst (v := 0) hC dX2_allSheep_0 (by decide) ?_
  refine vv_istore_n (lv2 := [(1, .int 0), (0, .ref a_n)]) hC dX2_allSheep_1 rfl (by decide) rfl ?_
  refine vv_iconst (v := 0) hC dX2_allSheep_2 (by decide) ?_
  refine vv_istore_n (lv2 := [(2, .int 0), (1, .int 0), (0, .ref a_n)]) hC dX2_allSheep_3 rfl (by decide) rfl ?_
  have hL1 : ∀ (r4 k4 : Nat) (l1_4 : Int32) (out : Int32), k4 + r4 = 4 → out = f_X2_allSheep_L4 n r4 k4 l1_4 → V g X 3 w0 0 0 26 [(0, .ref a_n), (1, .int out)] [] → V g X 3 w0 0 0 4 [(0, .ref a_n), (1, .int l1_4), (2, .int (nI k4))] [] := by
    intro r4
    induction r4 with
    | zero =>
      intro k4 l1_4 out hb ho hk
      refine vv_iload_n hC 2 dX2_allSheep_4 rfl rfl ?_
      refine vv_iconst (v := 4) hC dX2_allSheep_5 (by decide) ?_
      refine vv_icmp_ge hC 26 dX2_allSheep_6 (by decide) (fun c => ?_) (fun c => False.elim (c ((nI_le_ (a := 4) (b := k4) (by omega) (by omega)).mpr (by omega))))
      refine vv_lv [0, 1] rfl ?_
      have ho := ho.trans (by first | (simp only [f_X2_allSheep_L4]; done) | rfl | (simp only [f_X2_allSheep_L4]; rfl) : _ = l1_4)
      subst ho
      exact hk
    | succ r4 ih =>
      intro k4 l1_4 out hb ho hk
      refine vv_iload_n hC 2 dX2_allSheep_4 rfl rfl ?_
      refine vv_iconst (v := 4) hC dX2_allSheep_5 (by decide) ?_
      refine vv_icmp_ge hC 26 dX2_allSheep_6 (by decide) (fun c => absurd ((nI_le_ (a := 4) (b := k4) (by omega) (by omega)).mp c) (by first | omega | decide)) (fun c => ?_)
      refine vv_iload_n hC 1 dX2_allSheep_9 rfl rfl ?_
      refine vv_aload_n hC 0 dX2_allSheep_10 rfl rfl ?_
      refine vv_get (v := .long (gN_sheep n)) hC fl_X2_33 dX2_allSheep_11 h_n rfl ?_
      refine vv_iload_n hC 2 dX2_allSheep_14 rfl rfl ?_
      refine vv_callSN hC dX2_allSheep_15 md_X8_cell lk_n_X2_69 lk_t_X8_cell (As := [.long (gN_sheep n), .int (nI k4)]) (rest := [.int l1_4]) (c_X8_cell g w0 (gN_sheep n) (nI k4)) rfl rfl (Nat.le_of_ble_eq_true rfl) ⟨by decide, by decide, by decide, by decide⟩ (fun r w9 hq => ?_)
      obtain ⟨rfl, rfl⟩ := hq
      show V g X 3 w0 0 0 18 [(0, .ref a_n), (1, .int l1_4), (2, .int (nI k4))] [.int (f_X8_cell (gN_sheep n) (nI k4)), .int l1_4]
      refine vv_iadd hC dX2_allSheep_18 ?_
      refine vv_istore_n (lv2 := [(1, .int (l1_4 + f_X8_cell (gN_sheep n) (nI k4))), (0, .ref a_n), (2, .int (nI k4))]) hC dX2_allSheep_19 rfl (by decide) rfl ?_
      refine vv_iinc (lv2 := [(2, .int (nI (k4 + 1))), (1, .int (l1_4 + f_X8_cell (gN_sheep n) (nI k4))), (0, .ref a_n)]) hC 2 dX2_allSheep_20 rfl (nI_add k4 1) (by decide) rfl ?_
      refine vv_goto hC 4 dX2_allSheep_23 (by decide) ?_
      refine vv_lv [2, 1, 0] rfl ?_
      exact ih (k4 + 1) (l1_4 + f_X8_cell (gN_sheep n) (nI k4)) out (by omega) (ho.trans (by first | (simp only [f_X2_allSheep_L4]; done) | rfl | (simp only [f_X2_allSheep_L4]; rfl))) hk
  refine vv_lv [2, 1, 0] rfl ?_
  refine hL1 4 0 0 (f_X2_allSheep_L4 n 4 0 0) (by omega) rfl ?_
  refine vv_iload_n hC 1 dX2_allSheep_26 rfl rfl ?_
  have hf : (f_X2_allSheep n) = (f_X2_allSheep_L4 n 4 0 0) := by first | (simp only [f_X2_allSheep]; done) | rfl | (simp only [f_X2_allSheep]; rfl)
  refine vv_iret hC hR rfl dX2_allSheep_27 (by omega) (by omega) ?_
  rw [hf]
  exact ⟨rfl, rfl⟩
