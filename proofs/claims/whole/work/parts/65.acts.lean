def f_X0_add (acts_start : Nat) (acts_count : Nat) (n : TN) (el : TN) : Nat × Nat × TN := ((if acts_count < 16 then acts_start else (acts_start + 1) % 16), (if acts_count < 16 then acts_count else 15) + 1, (f_X2_copyFrom el n))
set_option maxHeartbeats 4000000 in
set_option maxRecDepth 100000 in
theorem c_X0_add (g : GT) (w0 : Wd) (a_acts : Nat) (a_before : Nat) (a_n : Nat) (a_el : Nat) (acts_start : Nat) (acts_count : Nat) (n : TN) (before : Nat → Option Nat) (el : TN) (hst : acts_start < 16) (hct : acts_count ≤ 16) (hel : before (actIx acts_start acts_count) = some a_el) (h_acts : w0 a_acts = some (.inr (0, cAc a_before (acts_start, acts_count)))) (h_n : w0 a_n = some (.inr (2, cN n))) (h_before : w0 a_before = some (.inl (g.2.2.1 4, 16, .inr (.inr (.inr (.inr before)))))) (h_el : w0 a_el = some (.inr (2, cN el))) (ne_el_n : ¬ a_el = a_n) : CT g yX0_add cX0_add 3 none 1 21 0 0 w0 [.ref a_acts, .ref a_n] (fun r w2 => r = none ∧ w2 a_acts = some (.inr (0, cAc a_before ((f_X0_add acts_start acts_count n el).1, (f_X0_add acts_start acts_count n el).2.1))) ∧ w2 a_el = some (.inr (2, cN ((f_X0_add acts_start acts_count n el).2.2))) ∧ wE (fun q => q = a_acts ∨ q = a_el) w0 w2) := by
  refine CT.of (own := RX0) (by decide +kernel) rfl (Nat.le_of_ble_eq_true rfl) (fun X hC hR hI => ?_)
  show V g X 3 w0 0 0 0 [(0, .ref a_acts), (1, .ref a_n)] []
  have hE : wE (fun q => q = a_acts ∨ q = a_el) w0 w0 := wE.refl
  refine vv_aload_n hC 0 dX0_add_0 rfl rfl ?_
  refine vv_get (v := .int (nI acts_count)) hC fl_X0_21 dX0_add_1 h_acts rfl ?_
  refine vv_bipush (v := (16)) hC dX0_add_4 (by decide) ?_
  have hJ2 : ∀ w5 : Wd, w5 a_acts = some (.inr (0, cAc a_before ((if acts_count < 16 then acts_start else (acts_start + 1) % 16), (if acts_count < 16 then acts_count else 15)))) → w5 a_n = some (.inr (2, cN n)) → w5 a_before = some (.inl (g.2.2.1 4, 16, .inr (.inr (.inr (.inr before))))) → w5 a_el = some (.inr (2, cN el)) → wE (fun q => q = a_acts ∨ q = a_el) w0 w5 → V g X 3 w5 0 0 28 [(0, .ref a_acts), (1, .ref a_n)] [] := by
    intro w5 h_acts h_n h_before h_el hE
    have hi1 : (if acts_count < 16 then acts_start else (acts_start + 1) % 16) < 16 := by split <;> omega
    have hi2 : (if acts_count < 16 then acts_count else 15) < 16 := by split <;> omega
    refine vv_aload_n hC 0 dX0_add_28 rfl rfl ?_
    refine vv_get (v := .ref a_before) hC fl_X0_11 dX0_add_29 h_acts rfl ?_
    refine vv_aload_n hC 0 dX0_add_32 rfl rfl ?_
    refine vv_get (v := .int (nI (if acts_count < 16 then acts_start else (acts_start + 1) % 16))) hC fl_X0_17 dX0_add_33 h_acts rfl ?_
    refine vv_aload_n hC 0 dX0_add_36 rfl rfl ?_
    refine vv_get (v := .int (nI (if acts_count < 16 then acts_count else 15))) hC fl_X0_21 dX0_add_37 h_acts rfl ?_
    refine vv_iadd hC dX0_add_40 ?_
    refine vv_topi (nI ((if acts_count < 16 then acts_start else (acts_start + 1) % 16) + (if acts_count < 16 then acts_count else 15))) (nI_add (if acts_count < 16 then acts_start else (acts_start + 1) % 16) (if acts_count < 16 then acts_count else 15)) ?_
    refine vv_bipush (v := (16)) hC dX0_add_41 (by decide) ?_
    refine vv_irem hC dX0_add_43 (by decide) ?_
    refine vv_topi (nI (((if acts_count < 16 then acts_start else (acts_start + 1) % 16) + (if acts_count < 16 then acts_count else 15)) % 16)) (nI_rem (a := (if acts_count < 16 then acts_start else (acts_start + 1) % 16) + (if acts_count < 16 then acts_count else 15)) (d := 16) (by omega) (by omega) (by omega)) ?_
    refine vv_callSN hC dX0_add_44 md_X8_nightAt lk_n_X0_28 lk_t_X8_nightAt (As := [.ref a_before, .int (nI (((if acts_count < 16 then acts_start else (acts_start + 1) % 16) + (if acts_count < 16 then acts_count else 15)) % 16))]) (rest := []) (c_X8_nightAt g w5 a_before 16 (((if acts_count < 16 then acts_start else (acts_start + 1) % 16) + (if acts_count < 16 then acts_count else 15)) % 16) before a_el (by omega) (by decide) (hel) h_before) rfl rfl (Nat.le_of_ble_eq_true rfl) ⟨by decide, by decide, by decide, by decide⟩ (fun r w9 hq => ?_)
    obtain ⟨rfl, rfl⟩ := hq
    show V g X 3 w5 0 0 47 [(0, .ref a_acts), (1, .ref a_n)] [.ref a_el]
    refine vv_astore_n (lv2 := [(2, .ref a_el), (0, .ref a_acts), (1, .ref a_n)]) hC dX0_add_47 rfl (by decide) rfl ?_
    refine vv_aload_n hC 0 dX0_add_48 rfl rfl ?_
    refine vv_ifnull hC dX0_add_49 ?_
    refine vv_aload_n hC 0 dX0_add_52 rfl rfl ?_
    refine vv_aload_n hC 2 dX0_add_53 rfl rfl ?_
    refine vv_callV hC dX0_add_54 md_X2_copyFrom lk_m_X0_32 lk_i_X2_copyFrom lk_s_X2_copyFrom h_el rfl (As := [.ref a_n]) (rest := []) (c_X2_copyFrom g w5 a_el a_n el n h_el h_n ne_el_n) rfl rfl (Nat.le_of_ble_eq_true rfl) ⟨by decide, by decide, by decide, by decide⟩ (fun r w9 hq => ?_)
    obtain ⟨rfl, t1, hs⟩ := hq
    obtain ⟨w6, rfl⟩ : ∃ z, z = w9 := ⟨_, rfl⟩
    have h_acts := hs _ _ (fw_oo h_acts h_el (by decide)) h_acts
    have h_n := hs _ _ (fun e => ne_el_n e.symm) h_n
    have h_before := hs _ _ (fw_ao h_before h_el) h_before
    have h_el := t1
    have hE := hE.trans (hs.mono (fun _ z => (Or.inr z)))
    show V g X 3 w6 0 0 57 [(2, .ref a_el), (0, .ref a_acts), (1, .ref a_n)] []
    refine vv_aload_n hC 1 dX0_add_57 rfl rfl ?_
    refine vv_dup hC dX0_add_58 rfl ?_
    refine vv_get (v := .int (nI (if acts_count < 16 then acts_count else 15))) hC fl_X0_21 dX0_add_59 h_acts rfl ?_
    refine vv_iconst (v := 1) hC dX0_add_62 (by decide) ?_
    refine vv_iadd hC dX0_add_63 ?_
    refine vv_topi (nI ((if acts_count < 16 then acts_count else 15) + 1)) (nI_add (if acts_count < 16 then acts_count else 15) 1) ?_
    refine vv_put hC fp_X0_21 dX0_add_64 h_acts rfl rfl (Nat.le_of_ble_eq_true rfl) (fun w7 t1 hs => ?_)
    have t1 : w7 a_acts = some (.inr (0, cAc a_before ((if acts_count < 16 then acts_start else (acts_start + 1) % 16), (if acts_count < 16 then acts_count else 15) + 1))) := t1.trans (congrArg (fun z => some (Sum.inr (0, z))) (eAc_count _ _ _ _))
    have h_n := hs _ _ (fw_oo h_n h_acts (by decide)) h_n
    have h_before := hs _ _ (fw_ao h_before h_acts) h_before
    have h_el := hs _ _ (fw_oo h_el h_acts (by decide)) h_el
    have h_acts := t1
    have hE := hE.trans (hs.mono (fun _ z => (Or.inl z)))
    have hf : (f_X0_add acts_start acts_count n el) = ((if acts_count < 16 then acts_start else (acts_start + 1) % 16), (if acts_count < 16 then acts_count else 15) + 1, (f_X2_copyFrom el n)) := by first | (simp only [f_X0_add]; done) | rfl | (simp only [f_X0_add]; rfl)
    refine vv_vret hC hR rfl dX0_add_67 (by omega) (by omega) ?_
    rw [hf]
    try dsimp only
    exact ⟨rfl, h_acts, h_el, hE⟩
  refine vv_icmp_lt hC 28 dX0_add_6 (by decide) (fun c1 => ?_) (fun c1 => ?_)
  · have c1 : acts_count < 16 := (nI_lt_ (a := acts_count) (b := 16) (by omega) (by omega)).mp c1
    have hz := hJ2 w0
    try simp only [if_pos c1] at hz
    first | exact hz h_acts h_n h_before h_el hE | (simp only [if_pos c1]; exact hz h_acts h_n h_before h_el hE)
  · have c1 : ¬ (acts_count < 16) := fun z => c1 ((nI_lt_ (a := acts_count) (b := 16) (by omega) (by omega)).mpr z)
    refine vv_aload_n hC 0 dX0_add_9 rfl rfl ?_
    refine vv_aload_n hC 0 dX0_add_10 rfl rfl ?_
    refine vv_get (v := .int (nI acts_start)) hC fl_X0_17 dX0_add_11 h_acts rfl ?_
    refine vv_iconst (v := 1) hC dX0_add_14 (by decide) ?_
    refine vv_iadd hC dX0_add_15 ?_
    refine vv_topi (nI (acts_start + 1)) (nI_add acts_start 1) ?_
    refine vv_bipush (v := (16)) hC dX0_add_16 (by decide) ?_
    refine vv_irem hC dX0_add_18 (by decide) ?_
    refine vv_topi (nI ((acts_start + 1) % 16)) (nI_rem (a := acts_start + 1) (d := 16) (by omega) (by omega) (by omega)) ?_
    refine vv_put hC fp_X0_17 dX0_add_19 h_acts rfl rfl (Nat.le_of_ble_eq_true rfl) (fun w3 t1 hs => ?_)
    have t1 : w3 a_acts = some (.inr (0, cAc a_before ((acts_start + 1) % 16, acts_count))) := t1.trans (congrArg (fun z => some (Sum.inr (0, z))) (eAc_start _ _ _ _))
    have h_n := hs _ _ (fw_oo h_n h_acts (by decide)) h_n
    have h_before := hs _ _ (fw_ao h_before h_acts) h_before
    have h_el := hs _ _ (fw_oo h_el h_acts (by decide)) h_el
    have h_acts := t1
    have hE := hE.trans (hs.mono (fun _ z => (Or.inl z)))
    refine vv_aload_n hC 0 dX0_add_22 rfl rfl ?_
    refine vv_bipush (v := (15)) hC dX0_add_23 (by decide) ?_
    refine vv_put hC fp_X0_21 dX0_add_25 h_acts rfl rfl (Nat.le_of_ble_eq_true rfl) (fun w4 t1 hs => ?_)
    have t1 : w4 a_acts = some (.inr (0, cAc a_before ((acts_start + 1) % 16, 15))) := t1.trans (congrArg (fun z => some (Sum.inr (0, z))) (eAc_count _ _ _ _))
    have h_n := hs _ _ (fw_oo h_n h_acts (by decide)) h_n
    have h_before := hs _ _ (fw_ao h_before h_acts) h_before
    have h_el := hs _ _ (fw_oo h_el h_acts (by decide)) h_el
    have h_acts := t1
    have hE := hE.trans (hs.mono (fun _ z => (Or.inl z)))
    have hz := hJ2 w4
    try simp only [if_neg c1] at hz
    first | exact hz h_acts h_n h_before h_el hE | (simp only [if_neg c1]; exact hz h_acts h_n h_before h_el hE)
def f_X0_takeBack (acts_count : Nat) (n : TN) (el : TN) : Bool × Nat × TN := (if 0 < acts_count then (true, acts_count - 1, (f_X2_copyFrom n el)) else (false, acts_count, n))
set_option maxHeartbeats 4000000 in
set_option maxRecDepth 100000 in
theorem c_X0_takeBack (g : GT) (w0 : Wd) (a_acts : Nat) (a_before : Nat) (a_n : Nat) (a_el : Nat) (acts_start : Nat) (acts_count : Nat) (n : TN) (before : Nat → Option Nat) (el : TN) (hst : acts_start < 16) (hct : acts_count ≤ 16) (hel : before ((acts_start + acts_count - 1) % 16) = some a_el) (h_acts : w0 a_acts = some (.inr (0, cAc a_before (acts_start, acts_count)))) (h_n : w0 a_n = some (.inr (2, cN n))) (h_before : w0 a_before = some (.inl (g.2.2.1 4, 16, .inr (.inr (.inr (.inr before)))))) (h_el : w0 a_el = some (.inr (2, cN el))) (ne_el_n : ¬ a_el = a_n) : CT g yX0_takeBack cX0_takeBack 3 (some .boolean) 1 21 0 0 w0 [.ref a_acts, .ref a_n] (fun r w2 => r = some (.int (bI ((f_X0_takeBack acts_count n el).1))) ∧ w2 a_acts = some (.inr (0, cAc a_before (acts_start, (f_X0_takeBack acts_count n el).2.1))) ∧ w2 a_n = some (.inr (2, cN ((f_X0_takeBack acts_count n el).2.2))) ∧ wE (fun q => q = a_acts ∨ q = a_n) w0 w2) := by
  refine CT.of (own := RX0) (by decide +kernel) rfl (Nat.le_of_ble_eq_true rfl) (fun X hC hR hI => ?_)
  show V g X 3 w0 0 0 0 [(0, .ref a_acts), (1, .ref a_n)] []
  have hE : wE (fun q => q = a_acts ∨ q = a_n) w0 w0 := wE.refl
  refine vv_aload_n hC 0 dX0_takeBack_0 rfl rfl ?_
  refine vv_get (v := .int (nI acts_count)) hC fl_X0_21 dX0_takeBack_1 h_acts rfl ?_
  refine vv_if_gt hC 9 dX0_takeBack_4 (by decide) (fun c1 => ?_) (fun c1 => ?_)
  · have c1 : 0 < acts_count := (nI_lt_ (a := 0) (b := acts_count) (by omega) (by omega)).mp c1
    refine vv_aload_n hC 0 dX0_takeBack_9 rfl rfl ?_
    refine vv_get (v := .ref a_before) hC fl_X0_11 dX0_takeBack_10 h_acts rfl ?_
    refine vv_aload_n hC 0 dX0_takeBack_13 rfl rfl ?_
    refine vv_get (v := .int (nI acts_start)) hC fl_X0_17 dX0_takeBack_14 h_acts rfl ?_
    refine vv_aload_n hC 0 dX0_takeBack_17 rfl rfl ?_
    refine vv_get (v := .int (nI acts_count)) hC fl_X0_21 dX0_takeBack_18 h_acts rfl ?_
    refine vv_iadd hC dX0_takeBack_21 ?_
    refine vv_topi (nI (acts_start + acts_count)) (nI_add acts_start acts_count) ?_
    refine vv_iconst (v := 1) hC dX0_takeBack_22 (by decide) ?_
    refine vv_isub hC dX0_takeBack_23 ?_
    refine vv_topi (nI ((acts_start + acts_count) - 1)) (pk_sub (a := acts_start + acts_count) (b := 1) (by omega)) ?_
    refine vv_bipush (v := (16)) hC dX0_takeBack_24 (by decide) ?_
    refine vv_irem hC dX0_takeBack_26 (by decide) ?_
    refine vv_topi (nI (((acts_start + acts_count) - 1) % 16)) (nI_rem (a := (acts_start + acts_count) - 1) (d := 16) (by omega) (by omega) (by omega)) ?_
    refine vv_callSN hC dX0_takeBack_27 md_X8_nightAt lk_n_X0_28 lk_t_X8_nightAt (As := [.ref a_before, .int (nI (((acts_start + acts_count) - 1) % 16))]) (rest := []) (c_X8_nightAt g w0 a_before 16 (((acts_start + acts_count) - 1) % 16) before a_el (by omega) (by decide) (hel) h_before) rfl rfl (Nat.le_of_ble_eq_true rfl) ⟨by decide, by decide, by decide, by decide⟩ (fun r w9 hq => ?_)
    obtain ⟨rfl, rfl⟩ := hq
    show V g X 3 w0 0 0 30 [(0, .ref a_acts), (1, .ref a_n)] [.ref a_el]
    refine vv_astore_n (lv2 := [(2, .ref a_el), (0, .ref a_acts), (1, .ref a_n)]) hC dX0_takeBack_30 rfl (by decide) rfl ?_
    refine vv_aload_n hC 0 dX0_takeBack_31 rfl rfl ?_
    refine vv_ifnonnull hC 37 dX0_takeBack_32 (by decide) ?_
    refine vv_aload_n hC 2 dX0_takeBack_37 rfl rfl ?_
    refine vv_aload_n hC 0 dX0_takeBack_38 rfl rfl ?_
    refine vv_callV hC dX0_takeBack_39 md_X2_copyFrom lk_m_X0_32 lk_i_X2_copyFrom lk_s_X2_copyFrom h_n rfl (As := [.ref a_el]) (rest := []) (c_X2_copyFrom g w0 a_n a_el n el h_n h_el (fun e => ne_el_n e.symm)) rfl rfl (Nat.le_of_ble_eq_true rfl) ⟨by decide, by decide, by decide, by decide⟩ (fun r w9 hq => ?_)
    obtain ⟨rfl, t1, hs⟩ := hq
    obtain ⟨w2, rfl⟩ : ∃ z, z = w9 := ⟨_, rfl⟩
    have h_acts := hs _ _ (fw_oo h_acts h_n (by decide)) h_acts
    have h_before := hs _ _ (fw_ao h_before h_n) h_before
    have h_el := hs _ _ ne_el_n h_el
    have h_n := t1
    have hE := hE.trans (hs.mono (fun _ z => (Or.inr z)))
    show V g X 3 w2 0 0 42 [(2, .ref a_el), (0, .ref a_acts), (1, .ref a_n)] []
    refine vv_aload_n hC 1 dX0_takeBack_42 rfl rfl ?_
    refine vv_dup hC dX0_takeBack_43 rfl ?_
    refine vv_get (v := .int (nI acts_count)) hC fl_X0_21 dX0_takeBack_44 h_acts rfl ?_
    refine vv_iconst (v := 1) hC dX0_takeBack_47 (by decide) ?_
    refine vv_isub hC dX0_takeBack_48 ?_
    refine vv_topi (nI (acts_count - 1)) (pk_sub (a := acts_count) (b := 1) (by omega)) ?_
    refine vv_put hC fp_X0_21 dX0_takeBack_49 h_acts rfl rfl (Nat.le_of_ble_eq_true rfl) (fun w3 t1 hs => ?_)
    have t1 : w3 a_acts = some (.inr (0, cAc a_before (acts_start, acts_count - 1))) := t1.trans (congrArg (fun z => some (Sum.inr (0, z))) (eAc_count _ _ _ _))
    have h_n := hs _ _ (fw_oo h_n h_acts (by decide)) h_n
    have h_before := hs _ _ (fw_ao h_before h_acts) h_before
    have h_el := hs _ _ (fw_oo h_el h_acts (by decide)) h_el
    have h_acts := t1
    have hE := hE.trans (hs.mono (fun _ z => (Or.inl z)))
    refine vv_iconst (v := 1) hC dX0_takeBack_52 (by decide) ?_
    have hf : (f_X0_takeBack acts_count n el) = (true, acts_count - 1, (f_X2_copyFrom n el)) := by first | (simp only [f_X0_takeBack, if_pos c1]; done) | rfl | (simp only [f_X0_takeBack, if_pos c1]; rfl)
    refine vv_zret hC hR rfl (by decide) dX0_takeBack_53 (by omega) (by omega) ?_
    rw [hf]
    try dsimp only
    exact ⟨rfl, h_acts, h_n, hE⟩
  · have c1 : ¬ (0 < acts_count) := fun z => c1 ((nI_lt_ (a := 0) (b := acts_count) (by omega) (by omega)).mpr z)
    refine vv_iconst (v := 0) hC dX0_takeBack_7 (by decide) ?_
    have hf : (f_X0_takeBack acts_count n el) = (false, acts_count, n) := by first | (simp only [f_X0_takeBack, if_neg c1]; done) | rfl | (simp only [f_X0_takeBack, if_neg c1]; rfl)
    refine vv_zret hC hR rfl (by decide) dX0_takeBack_8 (by omega) (by omega) ?_
    rw [hf]
    try dsimp only
    exact ⟨rfl, h_acts, h_n, hE⟩
