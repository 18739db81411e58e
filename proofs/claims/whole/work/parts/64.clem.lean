set_option maxRecDepth 100000 in
theorem c_X8_nightAt (g : GT) (w0 : Wd) (a N t : Nat) (f : Nat → Option Nat) (b : Nat) (ht : t < N) (hN : N < 2147483648) (hb : f t = some b) (h : w0 a = some (.inl (g.2.2.1 4, N, .inr (.inr (.inr (.inr f)))))) : CT g yX8_nightAt cX8_nightAt 2 (some (.object "FullMoonWho$Night")) 0 0 0 0 w0 [.ref a, .int (nI t)] (fun r w2 => r = some (.ref b) ∧ w0 = w2) := by
  refine CT.of (own := RX8) (by decide +kernel) rfl (Nat.le_of_ble_eq_true rfl) (fun X hC hR _ => ?_)
  show V g X 2 w0 0 0 0 [(0, .ref a), (1, .int (nI t))] []
  refine vv_iload_n hC 1 dX8_nightAt_0 rfl rfl ?_
  refine vv_if_lt hC 16 dX8_nightAt_1 (by decide) (fun c => absurd c (nI_neg (by omega))) (fun _ => ?_)
  refine vv_iload_n hC 1 dX8_nightAt_4 rfl rfl ?_
  refine vv_aload_n hC 0 dX8_nightAt_5 rfl rfl ?_
  refine vv_alen_aldq (v := nI N) hC dX8_nightAt_6 h rfl ?_
  refine vv_icmp_ge hC 16 dX8_nightAt_7 (by decide) (fun c => absurd ((nI_le_ (by omega) (by omega)).mp c) (by omega)) (fun _ => ?_)
  refine vv_aload_n hC 0 dX8_nightAt_10 rfl rfl ?_
  refine vv_iload_n hC 1 dX8_nightAt_11 rfl rfl ?_
  refine vv_aldqn (t := t) hC dX8_nightAt_12 h ht hN ?_
  have e : va_rf (f t) = .ref b := by rw [hb]; rfl
  rw [e]
  refine vv_goto hC 17 dX8_nightAt_13 (by decide) ?_
  exact vv_aret hC hR rfl (Or.inr ⟨_, rfl⟩) dX8_nightAt_17 (by omega) (by omega) ⟨rfl, rfl⟩
set_option maxRecDepth 100000 in
theorem c_X8_nightAt_null (g : GT) (w0 : Wd) (a N : Nat) (p : Int32) (f : Nat → Option Nat) (ho : p < 0 ∨ nI N ≤ p) (hN : N < 2147483648) (h : w0 a = some (.inl (g.2.2.1 4, N, .inr (.inr (.inr (.inr f)))))) : CT g yX8_nightAt cX8_nightAt 2 (some (.object "FullMoonWho$Night")) 0 0 0 0 w0 [.ref a, .int p] (fun r w2 => r = some .null ∧ w0 = w2) := by
  refine CT.of (own := RX8) (by decide +kernel) rfl (Nat.le_of_ble_eq_true rfl) (fun X hC hR _ => ?_)
  show V g X 2 w0 0 0 0 [(0, .ref a), (1, .int p)] []
  have hn : V g X 2 w0 0 0 16 [(0, .ref a), (1, .int p)] [] := by
    refine vv_null hC dX8_nightAt_16 ?_
    exact vv_aret hC hR rfl (Or.inl rfl) dX8_nightAt_17 (by omega) (by omega) ⟨rfl, rfl⟩
  refine vv_iload_n hC 1 dX8_nightAt_0 rfl rfl ?_
  refine vv_if_lt hC 16 dX8_nightAt_1 (by decide) (fun _ => hn) (fun c1 => ?_)
  refine vv_iload_n hC 1 dX8_nightAt_4 rfl rfl ?_
  refine vv_aload_n hC 0 dX8_nightAt_5 rfl rfl ?_
  refine vv_alen_aldq (v := nI N) hC dX8_nightAt_6 h rfl ?_
  refine vv_icmp_ge hC 16 dX8_nightAt_7 (by decide) (fun _ => hn) (fun c2 => ?_)
  exact (ho.elim c1 c2).elim
def actIx (st ct : Nat) : Nat := ((if ct < 16 then st else (st + 1) % 16) + (if ct < 16 then ct else 15)) % 16
