def f_J6_bitCount_0f7a4 (p0 : Int32) : Int32 := ((((((((p0 - ((iushr p0 1) &&& 1431655765)) &&& 858993459) + ((iushr (p0 - ((iushr p0 1) &&& 1431655765)) 2) &&& 858993459)) + (iushr (((p0 - ((iushr p0 1) &&& 1431655765)) &&& 858993459) + ((iushr (p0 - ((iushr p0 1) &&& 1431655765)) 2) &&& 858993459)) 4)) &&& 252645135) + (iushr (((((p0 - ((iushr p0 1) &&& 1431655765)) &&& 858993459) + ((iushr (p0 - ((iushr p0 1) &&& 1431655765)) 2) &&& 858993459)) + (iushr (((p0 - ((iushr p0 1) &&& 1431655765)) &&& 858993459) + ((iushr (p0 - ((iushr p0 1) &&& 1431655765)) 2) &&& 858993459)) 4)) &&& 252645135) 8)) + (iushr ((((((p0 - ((iushr p0 1) &&& 1431655765)) &&& 858993459) + ((iushr (p0 - ((iushr p0 1) &&& 1431655765)) 2) &&& 858993459)) + (iushr (((p0 - ((iushr p0 1) &&& 1431655765)) &&& 858993459) + ((iushr (p0 - ((iushr p0 1) &&& 1431655765)) 2) &&& 858993459)) 4)) &&& 252645135) + (iushr (((((p0 - ((iushr p0 1) &&& 1431655765)) &&& 858993459) + ((iushr (p0 - ((iushr p0 1) &&& 1431655765)) 2) &&& 858993459)) + (iushr (((p0 - ((iushr p0 1) &&& 1431655765)) &&& 858993459) + ((iushr (p0 - ((iushr p0 1) &&& 1431655765)) 2) &&& 858993459)) 4)) &&& 252645135) 8)) 16)) &&& 63)
set_option maxHeartbeats 4000000 in
set_option maxRecDepth 100000 in
theorem c_J6_bitCount_0f7a4 (g : GT) (w0 : Wd) (p0 : Int32) : CT g yJ6_bitCount_0f7a4 cJ6_bitCount_0f7a4 1 (some .int) 0 0 0 0 w0 [.int p0] (fun r w2 => r = some (.int (f_J6_bitCount_0f7a4 p0)) ∧ w0 = w2) := by
  refine CT.of (own := RJ6) (by decide +kernel) rfl (Nat.le_of_ble_eq_true rfl) (fun X hC hR hI => ?_)
  show V g X 1 w0 0 0 0 [(0, .int p0)] []
  refine vv_iload_n hC 0 dJ6_bitCount_0f7a4_0 rfl rfl ?_
  refine vv_iload_n hC 0 dJ6_bitCount_0f7a4_1 rfl rfl ?_
  refine vv_iconst (v := 1) hC dJ6_bitCount_0f7a4_2 (by decide) ?_
  refine vv_iushr hC dJ6_bitCount_0f7a4_3 ?_
  refine vv_ldcw (v := (1431655765)) hC lk_k_J6_265 dJ6_bitCount_0f7a4_4 ?_
  refine vv_iand hC dJ6_bitCount_0f7a4_7 ?_
  refine vv_isub hC dJ6_bitCount_0f7a4_8 ?_
  refine vv_istore_n (lv2 := [(0, .int (p0 - ((iushr p0 1) &&& 1431655765)))]) hC dJ6_bitCount_0f7a4_9 rfl (by decide) rfl ?_
  refine vv_iload_n hC 0 dJ6_bitCount_0f7a4_10 rfl rfl ?_
  refine vv_ldcw (v := (858993459)) hC lk_k_J6_266 dJ6_bitCount_0f7a4_11 ?_
  refine vv_iand hC dJ6_bitCount_0f7a4_14 ?_
  refine vv_iload_n hC 0 dJ6_bitCount_0f7a4_15 rfl rfl ?_
  refine vv_iconst (v := 2) hC dJ6_bitCount_0f7a4_16 (by decide) ?_
  refine vv_iushr hC dJ6_bitCount_0f7a4_17 ?_
  refine vv_ldcw (v := (858993459)) hC lk_k_J6_266 dJ6_bitCount_0f7a4_18 ?_
  refine vv_iand hC dJ6_bitCount_0f7a4_21 ?_
  refine vv_iadd hC dJ6_bitCount_0f7a4_22 ?_
  refine vv_istore_n (lv2 := [(0, .int (((p0 - ((iushr p0 1) &&& 1431655765)) &&& 858993459) + ((iushr (p0 - ((iushr p0 1) &&& 1431655765)) 2) &&& 858993459)))]) hC dJ6_bitCount_0f7a4_23 rfl (by decide) rfl ?_
  refine vv_iload_n hC 0 dJ6_bitCount_0f7a4_24 rfl rfl ?_
  refine vv_iload_n hC 0 dJ6_bitCount_0f7a4_25 rfl rfl ?_
  refine vv_iconst (v := 4) hC dJ6_bitCount_0f7a4_26 (by decide) ?_
  refine vv_iushr hC dJ6_bitCount_0f7a4_27 ?_
  refine vv_iadd hC dJ6_bitCount_0f7a4_28 ?_
  refine vv_ldcw (v := (252645135)) hC lk_k_J6_267 dJ6_bitCount_0f7a4_29 ?_
  refine vv_iand hC dJ6_bitCount_0f7a4_32 ?_
  refine vv_istore_n (lv2 := [(0, .int (((((p0 - ((iushr p0 1) &&& 1431655765)) &&& 858993459) + ((iushr (p0 - ((iushr p0 1) &&& 1431655765)) 2) &&& 858993459)) + (iushr (((p0 - ((iushr p0 1) &&& 1431655765)) &&& 858993459) + ((iushr (p0 - ((iushr p0 1) &&& 1431655765)) 2) &&& 858993459)) 4)) &&& 252645135))]) hC dJ6_bitCount_0f7a4_33 rfl (by decide) rfl ?_
  refine vv_iload_n hC 0 dJ6_bitCount_0f7a4_34 rfl rfl ?_
  refine vv_iload_n hC 0 dJ6_bitCount_0f7a4_35 rfl rfl ?_
  refine vv_bipush (v := (8)) hC dJ6_bitCount_0f7a4_36 (by decide) ?_
  refine vv_iushr hC dJ6_bitCount_0f7a4_38 ?_
  refine vv_iadd hC dJ6_bitCount_0f7a4_39 ?_
  refine vv_istore_n (lv2 := [(0, .int ((((((p0 - ((iushr p0 1) &&& 1431655765)) &&& 858993459) + ((iushr (p0 - ((iushr p0 1) &&& 1431655765)) 2) &&& 858993459)) + (iushr (((p0 - ((iushr p0 1) &&& 1431655765)) &&& 858993459) + ((iushr (p0 - ((iushr p0 1) &&& 1431655765)) 2) &&& 858993459)) 4)) &&& 252645135) + (iushr (((((p0 - ((iushr p0 1) &&& 1431655765)) &&& 858993459) + ((iushr (p0 - ((iushr p0 1) &&& 1431655765)) 2) &&& 858993459)) + (iushr (((p0 - ((iushr p0 1) &&& 1431655765)) &&& 858993459) + ((iushr (p0 - ((iushr p0 1) &&& 1431655765)) 2) &&& 858993459)) 4)) &&& 252645135) 8)))]) hC dJ6_bitCount_0f7a4_40 rfl (by decide) rfl ?_
  refine vv_iload_n hC 0 dJ6_bitCount_0f7a4_41 rfl rfl ?_
  refine vv_iload_n hC 0 dJ6_bitCount_0f7a4_42 rfl rfl ?_
  refine vv_bipush (v := (16)) hC dJ6_bitCount_0f7a4_43 (by decide) ?_
  refine vv_iushr hC dJ6_bitCount_0f7a4_45 ?_
  refine vv_iadd hC dJ6_bitCount_0f7a4_46 ?_
  refine vv_istore_n (lv2 := [(0, .int (((((((p0 - ((iushr p0 1) &&& 1431655765)) &&& 858993459) + ((iushr (p0 - ((iushr p0 1) &&& 1431655765)) 2) &&& 858993459)) + (iushr (((p0 - ((iushr p0 1) &&& 1431655765)) &&& 858993459) + ((iushr (p0 - ((iushr p0 1) &&& 1431655765)) 2) &&& 858993459)) 4)) &&& 252645135) + (iushr (((((p0 - ((iushr p0 1) &&& 1431655765)) &&& 858993459) + ((iushr (p0 - ((iushr p0 1) &&& 1431655765)) 2) &&& 858993459)) + (iushr (((p0 - ((iushr p0 1) &&& 1431655765)) &&& 858993459) + ((iushr (p0 - ((iushr p0 1) &&& 1431655765)) 2) &&& 858993459)) 4)) &&& 252645135) 8)) + (iushr ((((((p0 - ((iushr p0 1) &&& 1431655765)) &&& 858993459) + ((iushr (p0 - ((iushr p0 1) &&& 1431655765)) 2) &&& 858993459)) + (iushr (((p0 - ((iushr p0 1) &&& 1431655765)) &&& 858993459) + ((iushr (p0 - ((iushr p0 1) &&& 1431655765)) 2) &&& 858993459)) 4)) &&& 252645135) + (iushr (((((p0 - ((iushr p0 1) &&& 1431655765)) &&& 858993459) + ((iushr (p0 - ((iushr p0 1) &&& 1431655765)) 2) &&& 858993459)) + (iushr (((p0 - ((iushr p0 1) &&& 1431655765)) &&& 858993459) + ((iushr (p0 - ((iushr p0 1) &&& 1431655765)) 2) &&& 858993459)) 4)) &&& 252645135) 8)) 16)))]) hC dJ6_bitCount_0f7a4_47 rfl (by decide) rfl ?_
  refine vv_iload_n hC 0 dJ6_bitCount_0f7a4_48 rfl rfl ?_
  refine vv_bipush (v := (63)) hC dJ6_bitCount_0f7a4_49 (by decide) ?_
  refine vv_iand hC dJ6_bitCount_0f7a4_51 ?_
  have hf : (f_J6_bitCount_0f7a4 p0) = ((((((((p0 - ((iushr p0 1) &&& 1431655765)) &&& 858993459) + ((iushr (p0 - ((iushr p0 1) &&& 1431655765)) 2) &&& 858993459)) + (iushr (((p0 - ((iushr p0 1) &&& 1431655765)) &&& 858993459) + ((iushr (p0 - ((iushr p0 1) &&& 1431655765)) 2) &&& 858993459)) 4)) &&& 252645135) + (iushr (((((p0 - ((iushr p0 1) &&& 1431655765)) &&& 858993459) + ((iushr (p0 - ((iushr p0 1) &&& 1431655765)) 2) &&& 858993459)) + (iushr (((p0 - ((iushr p0 1) &&& 1431655765)) &&& 858993459) + ((iushr (p0 - ((iushr p0 1) &&& 1431655765)) 2) &&& 858993459)) 4)) &&& 252645135) 8)) + (iushr ((((((p0 - ((iushr p0 1) &&& 1431655765)) &&& 858993459) + ((iushr (p0 - ((iushr p0 1) &&& 1431655765)) 2) &&& 858993459)) + (iushr (((p0 - ((iushr p0 1) &&& 1431655765)) &&& 858993459) + ((iushr (p0 - ((iushr p0 1) &&& 1431655765)) 2) &&& 858993459)) 4)) &&& 252645135) + (iushr (((((p0 - ((iushr p0 1) &&& 1431655765)) &&& 858993459) + ((iushr (p0 - ((iushr p0 1) &&& 1431655765)) 2) &&& 858993459)) + (iushr (((p0 - ((iushr p0 1) &&& 1431655765)) &&& 858993459) + ((iushr (p0 - ((iushr p0 1) &&& 1431655765)) 2) &&& 858993459)) 4)) &&& 252645135) 8)) 16)) &&& 63) := by first | (simp only [f_J6_bitCount_0f7a4]; done) | rfl | (simp only [f_J6_bitCount_0f7a4]; rfl)
  refine vv_iret hC hR rfl dJ6_bitCount_0f7a4_52 (by omega) (by omega) ?_
  rw [hf]
  exact ⟨rfl, rfl⟩
