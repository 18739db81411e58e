/-- the addresses of Ls are new since w0, alive in w and distinct -/
def DN (w0 w : Wd) (Ls : List Nat) : Prop := Ls.Nodup ∧ ∀ q, q ∈ Ls → w0 q = none ∧ ∃ e, w q = some e
def Al (w w2 : Wd) : Prop := ∀ q e, w q = some e → ∃ e2, w2 q = some e2
theorem Al.of {M : Nat → Prop} {w w2 : Wd} (hs : wE M w w2) (hM : ∀ q, M q → ∃ e, w2 q = some e) : Al w w2 := fun q e h => by
  by_cases z : M q
  · exact hM q z
  · exact ⟨e, hs q e z h⟩
theorem DN.nil {w0 w : Wd} : DN w0 w [] := ⟨List.nodup_nil, fun q h => by cases h⟩
theorem DN.keep {w0 w w2 : Wd} {Ls : List Nat} (h : DN w0 w Ls) (ha : Al w w2) : DN w0 w2 Ls := ⟨h.1, fun q hq => ⟨(h.2 q hq).1, (h.2 q hq).2.elim fun e he => ha q e he⟩⟩
theorem DN.join {w0 w w2 : Wd} {Ls Ns : List Nat} (h : DN w0 w Ls) (ha : Al w w2) (hn : DN w w2 Ns) (h0 : ∀ q, w q = none → w0 q = none) : DN w0 w2 (Ns ++ Ls) := by
  refine ⟨List.nodup_append.mpr ⟨hn.1, h.1, fun a ha' b hb e => ?_⟩, fun q hq => ?_⟩
  · subst e
    obtain ⟨e, he⟩ := (h.2 a hb).2
    rw [(hn.2 a ha').1] at he
    cases he
  · rcases List.mem_append.mp hq with hq | hq
    · exact ⟨h0 q (hn.2 q hq).1, (hn.2 q hq).2⟩
    · exact (h.keep ha).2 q hq
theorem DN.one {w w2 : Wd} {q : Nat} {e : va_E} (h0 : w q = none) (h : w2 q = some e) : DN w w2 [q] := ⟨by simp, fun x hx => by rw [List.mem_singleton.mp hx]; exact ⟨h0, e, h⟩⟩
theorem wE.nn {M : Nat → Prop} {w0 w : Wd} {q : Nat} (h1 : wE M w0 w) (hM : ∀ x, M x → ∃ e, w x = some e) (hq : w q = none) : w0 q = none := by
  cases h : w0 q with
  | none => rfl
  | some e =>
    by_cases z : M q
    · obtain ⟨e2, h2⟩ := hM q z
      rw [hq] at h2; cases h2
    · have := h1 q e z h
      rw [hq] at this; cases this
theorem wE.frg {M S : Nat → Prop} {w0 w w1 : Wd} (h1 : wE M w0 w) (hs : wE S w w1) (h : ∀ x, S x → M x ∨ w0 x = none) : wE M w0 w1 := fun x e hx h0 => hs x e (fun z => (h x z).elim hx (fun hn => by rw [hn] at h0; cases h0)) (h1 x e hx h0)
theorem fr_ne {w : Wd} {a q : Nat} {e : va_E} (h : w a = some e) (hq : w q = none) : ¬ a = q := fun z => by rw [z, hq] at h; cases h
theorem nfsX0 : ∀ j, j < 3 → defaultValue (tyX0 j) = vp_V ([.null, .int 0, .int 0]) j := by
  intro j hj
  match j, hj with
  | 0, _ => rfl
  | 1, _ => rfl
  | 2, _ => rfl
  | j + 3, hj => exact absurd hj (by omega)
theorem nfsX1 : ∀ j, j < 2 → defaultValue (tyX1 j) = vp_V ([.null, .null]) j := by
  intro j hj
  match j, hj with
  | 0, _ => rfl
  | 1, _ => rfl
  | j + 2, hj => exact absurd hj (by omega)
def zN : TN := (0, 0, 0, 0, 0, 0, 0, 0, 0, 0)
theorem nfsX2 : ∀ j, j < 10 → defaultValue (tyX2 j) = vp_V (cN zN) j := by
  intro j hj
  match j, hj with
  | 0, _ => rfl
  | 1, _ => rfl
  | 2, _ => rfl
  | 3, _ => rfl
  | 4, _ => rfl
  | 5, _ => rfl
  | 6, _ => rfl
  | 7, _ => rfl
  | 8, _ => rfl
  | 9, _ => rfl
  | j + 10, hj => exact absurd hj (by omega)
theorem nfsX3 : ∀ j, j < 5 → defaultValue (tyX3 j) = vp_V ([.null, .null, .int 0, .int 0, .int 0]) j := by
  intro j hj
  match j, hj with
  | 0, _ => rfl
  | 1, _ => rfl
  | 2, _ => rfl
  | 3, _ => rfl
  | 4, _ => rfl
  | j + 5, hj => exact absurd hj (by omega)
theorem nfsX4 : ∀ j, j < 5 → defaultValue (tyX4 j) = vp_V ([.null, .null, .null, .null, .int 0]) j := by
  intro j hj
  match j, hj with
  | 0, _ => rfl
  | 1, _ => rfl
  | 2, _ => rfl
  | 3, _ => rfl
  | 4, _ => rfl
  | j + 5, hj => exact absurd hj (by omega)
theorem nfsX5 : ∀ j, j < 7 → defaultValue (tyX5 j) = vp_V ([.null, .null, .null, .int 0, .int 0, .long 0, .long 0]) j := by
  intro j hj
  match j, hj with
  | 0, _ => rfl
  | 1, _ => rfl
  | 2, _ => rfl
  | 3, _ => rfl
  | 4, _ => rfl
  | 5, _ => rfl
  | 6, _ => rfl
  | j + 7, hj => exact absurd hj (by omega)
theorem nfsX6 : ∀ j, j < 2 → defaultValue (tyX6 j) = vp_V ([.null, .int 0]) j := by
  intro j hj
  match j, hj with
  | 0, _ => rfl
  | 1, _ => rfl
  | j + 2, hj => exact absurd hj (by omega)
def zVi : TVi := (0, 0, 0, 0, 0, 0, 0, 0, 0, 0, 0)
theorem nfsX7 : ∀ j, j < 11 → defaultValue (tyX7 j) = vp_V (cVi zVi) j := by
  intro j hj
  match j, hj with
  | 0, _ => rfl
  | 1, _ => rfl
  | 2, _ => rfl
  | 3, _ => rfl
  | 4, _ => rfl
  | 5, _ => rfl
  | 6, _ => rfl
  | 7, _ => rfl
  | 8, _ => rfl
  | 9, _ => rfl
  | 10, _ => rfl
  | j + 11, hj => exact absurd hj (by omega)
theorem nfsX8 : ∀ j, j < 11 → defaultValue (tyX8 j) = vp_V ([.null, .null, .null, .null, .null, .null, .int 0, .null, .null, .null, .long 0]) j := by
  intro j hj
  match j, hj with
  | 0, _ => rfl
  | 1, _ => rfl
  | 2, _ => rfl
  | 3, _ => rfl
  | 4, _ => rfl
  | 5, _ => rfl
  | 6, _ => rfl
  | 7, _ => rfl
  | 8, _ => rfl
  | 9, _ => rfl
  | 10, _ => rfl
  | j + 11, hj => exact absurd hj (by omega)
theorem nfsX9 : ∀ j, j < 31 → defaultValue (tyX9 j) = vp_V ([.int 0, .int 0, .int 0, .int 0, .null, .null, .null, .null, .null, .int 0, .null, .null, .null, .int 0, .int 0, .int 0, .int 0, .int 0, .null, .null, .null, .null, .null, .int 0, .null, .null, .null, .null, .null, .null, .long 0]) j := by
  intro j hj
  match j, hj with
  | 0, _ => rfl
  | 1, _ => rfl
  | 2, _ => rfl
  | 3, _ => rfl
  | 4, _ => rfl
  | 5, _ => rfl
  | 6, _ => rfl
  | 7, _ => rfl
  | 8, _ => rfl
  | 9, _ => rfl
  | 10, _ => rfl
  | 11, _ => rfl
  | 12, _ => rfl
  | 13, _ => rfl
  | 14, _ => rfl
  | 15, _ => rfl
  | 16, _ => rfl
  | 17, _ => rfl
  | 18, _ => rfl
  | 19, _ => rfl
  | 20, _ => rfl
  | 21, _ => rfl
  | 22, _ => rfl
  | 23, _ => rfl
  | 24, _ => rfl
  | 25, _ => rfl
  | 26, _ => rfl
  | 27, _ => rfl
  | 28, _ => rfl
  | 29, _ => rfl
  | 30, _ => rfl
  | j + 31, hj => exact absurd hj (by omega)
set_option maxHeartbeats 8000000 in
set_option maxRecDepth 100000 in
theorem c_X6_init (g : GT) (w0 : Wd) (a : Nat) (h_a : w0 a = some (.inr (6, [.null, .int 0]))) : CT g yX6_init cX6_init 1 none 1 20 1 96 w0 [.ref a] (fun r w2 => r = none ∧ ∃ q1, DN w0 w2 [q1] ∧ w2 a = some (.inr (6, cTx q1 0)) ∧ w2 q1 = some (.inl (g.2.2.1 2, 96, .inl (fun _ => 0))) ∧ wE (fun q => q = a) w0 w2) := by
  refine CT.of (own := RX6) (by decide +kernel) rfl (Nat.le_of_ble_eq_true rfl) (fun X hC hR hI => ?_)
  show V g X 1 w0 0 0 0 [(0, .ref a)] []
  have hE : wE (fun q => q = a) w0 w0 := wE.refl
  have hD : DN w0 w0 [] := DN.nil
  refine vv_aload_n hC 0 dX6_init_0 rfl rfl ?_
  refine vv_objInit hC lk_m_X6_3 dX6_init_1 (by decide) (Nat.le_of_ble_eq_true rfl) (Nat.le_of_ble_eq_true rfl) ?_
  refine vv_aload_n hC 0 dX6_init_4 rfl rfl ?_
  refine vv_bipush (v := 96) hC dX6_init_5 (by decide) ?_
  refine vv_newaB (N := 96) hC lk_a_byte dX6_init_7 (by decide) (by decide) (by decide) (Nat.le_of_ble_eq_true rfl) (Nat.le_of_ble_eq_true rfl) (fun q_bytes w1 hq t1 hs => ?_)
  have n0_bytes := hE.nn (fun _ z => (by rw [z]; exact ⟨_, h_a⟩)) hq
  have hZ := fun q (hq : w0 q = none) => hE.nn (fun _ z => (by rw [z]; exact ⟨_, h_a⟩)) hq
  have h_a := hs _ _ (fun z => z) h_a
  have hE := hE.frg hs (fun _ z => z.elim)
  have h_bytes : w1 q_bytes = some (.inl (g.2.2.1 2, 96, .inl (fun _ => 0))) := t1
  have hD := hD.join (Al.of hs (fun _ z => z.elim)) (DN.one hq t1) hZ
  refine vv_putF hC (hI rfl) fp_X6_9 dX6_init_9 h_a rfl rfl (Nat.le_of_ble_eq_true rfl) (fun w2 t1 hs => ?_)
  have h_bytes := hs _ _ (fw_ao h_bytes h_a) h_bytes
  have hE := hE.frg hs (fun _ z => Or.inl z)
  have h_a : w2 a = some (.inr (6, [.ref q_bytes, .int 0])) := t1
  have hD := hD.keep (Al.of hs (fun _ z => (by rw [z]; exact ⟨_, h_a⟩)))
  refine vv_aload_n hC 0 dX6_init_12 rfl rfl ?_
  refine vv_iconst (v := 0) hC dX6_init_13 (by decide) ?_
  refine vv_put hC fp_X6_15 dX6_init_14 h_a rfl rfl (Nat.le_of_ble_eq_true rfl) (fun w3 t1 hs => ?_)
  have h_bytes := hs _ _ (fw_ao h_bytes h_a) h_bytes
  have hE := hE.frg hs (fun _ z => Or.inl z)
  have h_a : w3 a = some (.inr (6, [.ref q_bytes, .int 0])) := t1
  have hD := hD.keep (Al.of hs (fun _ z => (by rw [z]; exact ⟨_, h_a⟩)))
  refine vv_vret hC hR rfl dX6_init_17 (Nat.le_of_ble_eq_true rfl) (Nat.le_of_ble_eq_true rfl) ?_
  exact ⟨rfl, q_bytes, hD, h_a, h_bytes, hE⟩
set_option maxHeartbeats 8000000 in
set_option maxRecDepth 100000 in
theorem c_X4_init (g : GT) (w0 : Wd) (a : Nat) (h_a : w0 a = some (.inr (4, [.null, .null, .null, .null, .int 0]))) : CT g yX4_init cX4_init 1 none 1 20 4 24 w0 [.ref a] (fun r w2 => r = none ∧ ∃ q1 q2 q3 q4, DN w0 w2 [q4, q3, q2, q1] ∧ w2 a = some (.inr (4, cSi q1 q2 q3 q4 0)) ∧ w2 q1 = some (.inl (g.2.2.1 0, 6, .inl (fun _ => 0))) ∧ w2 q2 = some (.inl (g.2.2.1 0, 6, .inl (fun _ => 0))) ∧ w2 q3 = some (.inl (g.2.2.1 0, 6, .inl (fun _ => 0))) ∧ w2 q4 = some (.inl (g.2.2.1 0, 6, .inl (fun _ => 0))) ∧ wE (fun q => q = a) w0 w2) := by
  refine CT.of (own := RX4) (by decide +kernel) rfl (Nat.le_of_ble_eq_true rfl) (fun X hC hR hI => ?_)
  show V g X 1 w0 0 0 0 [(0, .ref a)] []
  have hE : wE (fun q => q = a) w0 w0 := wE.refl
  have hD : DN w0 w0 [] := DN.nil
  refine vv_aload_n hC 0 dX4_init_0 rfl rfl ?_
  refine vv_objInit hC lk_m_X4_3 dX4_init_1 (by decide) (Nat.le_of_ble_eq_true rfl) (Nat.le_of_ble_eq_true rfl) ?_
  refine vv_aload_n hC 0 dX4_init_4 rfl rfl ?_
  refine vv_bipush (v := 6) hC dX4_init_5 (by decide) ?_
  refine vv_newaI (N := 6) hC lk_a_int dX4_init_7 (by decide) (by decide) (by decide) (Nat.le_of_ble_eq_true rfl) (Nat.le_of_ble_eq_true rfl) (fun q_kinds w1 hq t1 hs => ?_)
  have n0_kinds := hE.nn (fun _ z => (by rw [z]; exact ⟨_, h_a⟩)) hq
  have hZ := fun q (hq : w0 q = none) => hE.nn (fun _ z => (by rw [z]; exact ⟨_, h_a⟩)) hq
  have h_a := hs _ _ (fun z => z) h_a
  have hE := hE.frg hs (fun _ z => z.elim)
  have h_kinds : w1 q_kinds = some (.inl (g.2.2.1 0, 6, .inl (fun _ => 0))) := t1
  have hD := hD.join (Al.of hs (fun _ z => z.elim)) (DN.one hq t1) hZ
  refine vv_putF hC (hI rfl) fp_X4_9 dX4_init_9 h_a rfl rfl (Nat.le_of_ble_eq_true rfl) (fun w2 t1 hs => ?_)
  have h_kinds := hs _ _ (fw_ao h_kinds h_a) h_kinds
  have hE := hE.frg hs (fun _ z => Or.inl z)
  have h_a : w2 a = some (.inr (4, [.ref q_kinds, .null, .null, .null, .int 0])) := t1
  have hD := hD.keep (Al.of hs (fun _ z => (by rw [z]; exact ⟨_, h_a⟩)))
  refine vv_aload_n hC 0 dX4_init_12 rfl rfl ?_
  refine vv_bipush (v := 6) hC dX4_init_13 (by decide) ?_
  refine vv_newaI (N := 6) hC lk_a_int dX4_init_15 (by decide) (by decide) (by decide) (Nat.le_of_ble_eq_true rfl) (Nat.le_of_ble_eq_true rfl) (fun q_moons w3 hq t1 hs => ?_)
  have ne_kinds_moons := fr_ne h_kinds hq
  have n0_moons := hE.nn (fun _ z => (by rw [z]; exact ⟨_, h_a⟩)) hq
  have hZ := fun q (hq : w2 q = none) => hE.nn (fun _ z => (by rw [z]; exact ⟨_, h_a⟩)) hq
  have h_a := hs _ _ (fun z => z) h_a
  have h_kinds := hs _ _ (fun z => z) h_kinds
  have hE := hE.frg hs (fun _ z => z.elim)
  have h_moons : w3 q_moons = some (.inl (g.2.2.1 0, 6, .inl (fun _ => 0))) := t1
  have hD := hD.join (Al.of hs (fun _ z => z.elim)) (DN.one hq t1) hZ
  refine vv_putF hC (hI rfl) fp_X4_15 dX4_init_17 h_a rfl rfl (Nat.le_of_ble_eq_true rfl) (fun w4 t1 hs => ?_)
  have h_kinds := hs _ _ (fw_ao h_kinds h_a) h_kinds
  have h_moons := hs _ _ (fw_ao h_moons h_a) h_moons
  have hE := hE.frg hs (fun _ z => Or.inl z)
  have h_a : w4 a = some (.inr (4, [.ref q_kinds, .ref q_moons, .null, .null, .int 0])) := t1
  have hD := hD.keep (Al.of hs (fun _ z => (by rw [z]; exact ⟨_, h_a⟩)))
  refine vv_aload_n hC 0 dX4_init_20 rfl rfl ?_
  refine vv_bipush (v := 6) hC dX4_init_21 (by decide) ?_
  refine vv_newaI (N := 6) hC lk_a_int dX4_init_23 (by decide) (by decide) (by decide) (Nat.le_of_ble_eq_true rfl) (Nat.le_of_ble_eq_true rfl) (fun q_places w5 hq t1 hs => ?_)
  have ne_kinds_places := fr_ne h_kinds hq
  have ne_moons_places := fr_ne h_moons hq
  have n0_places := hE.nn (fun _ z => (by rw [z]; exact ⟨_, h_a⟩)) hq
  have hZ := fun q (hq : w4 q = none) => hE.nn (fun _ z => (by rw [z]; exact ⟨_, h_a⟩)) hq
  have h_a := hs _ _ (fun z => z) h_a
  have h_kinds := hs _ _ (fun z => z) h_kinds
  have h_moons := hs _ _ (fun z => z) h_moons
  have hE := hE.frg hs (fun _ z => z.elim)
  have h_places : w5 q_places = some (.inl (g.2.2.1 0, 6, .inl (fun _ => 0))) := t1
  have hD := hD.join (Al.of hs (fun _ z => z.elim)) (DN.one hq t1) hZ
  refine vv_putF hC (hI rfl) fp_X4_18 dX4_init_25 h_a rfl rfl (Nat.le_of_ble_eq_true rfl) (fun w6 t1 hs => ?_)
  have h_kinds := hs _ _ (fw_ao h_kinds h_a) h_kinds
  have h_moons := hs _ _ (fw_ao h_moons h_a) h_moons
  have h_places := hs _ _ (fw_ao h_places h_a) h_places
  have hE := hE.frg hs (fun _ z => Or.inl z)
  have h_a : w6 a = some (.inr (4, [.ref q_kinds, .ref q_moons, .ref q_places, .null, .int 0])) := t1
  have hD := hD.keep (Al.of hs (fun _ z => (by rw [z]; exact ⟨_, h_a⟩)))
  refine vv_aload_n hC 0 dX4_init_28 rfl rfl ?_
  refine vv_bipush (v := 6) hC dX4_init_29 (by decide) ?_
  refine vv_newaI (N := 6) hC lk_a_int dX4_init_31 (by decide) (by decide) (by decide) (Nat.le_of_ble_eq_true rfl) (Nat.le_of_ble_eq_true rfl) (fun q_values w7 hq t1 hs => ?_)
  have ne_kinds_values := fr_ne h_kinds hq
  have ne_moons_values := fr_ne h_moons hq
  have ne_places_values := fr_ne h_places hq
  have n0_values := hE.nn (fun _ z => (by rw [z]; exact ⟨_, h_a⟩)) hq
  have hZ := fun q (hq : w6 q = none) => hE.nn (fun _ z => (by rw [z]; exact ⟨_, h_a⟩)) hq
  have h_a := hs _ _ (fun z => z) h_a
  have h_kinds := hs _ _ (fun z => z) h_kinds
  have h_moons := hs _ _ (fun z => z) h_moons
  have h_places := hs _ _ (fun z => z) h_places
  have hE := hE.frg hs (fun _ z => z.elim)
  have h_values : w7 q_values = some (.inl (g.2.2.1 0, 6, .inl (fun _ => 0))) := t1
  have hD := hD.join (Al.of hs (fun _ z => z.elim)) (DN.one hq t1) hZ
  refine vv_putF hC (hI rfl) fp_X4_21 dX4_init_33 h_a rfl rfl (Nat.le_of_ble_eq_true rfl) (fun w8 t1 hs => ?_)
  have h_kinds := hs _ _ (fw_ao h_kinds h_a) h_kinds
  have h_moons := hs _ _ (fw_ao h_moons h_a) h_moons
  have h_places := hs _ _ (fw_ao h_places h_a) h_places
  have h_values := hs _ _ (fw_ao h_values h_a) h_values
  have hE := hE.frg hs (fun _ z => Or.inl z)
  have h_a : w8 a = some (.inr (4, [.ref q_kinds, .ref q_moons, .ref q_places, .ref q_values, .int 0])) := t1
  have hD := hD.keep (Al.of hs (fun _ z => (by rw [z]; exact ⟨_, h_a⟩)))
  refine vv_aload_n hC 0 dX4_init_36 rfl rfl ?_
  refine vv_iconst (v := 0) hC dX4_init_37 (by decide) ?_
  refine vv_put hC fp_X4_24 dX4_init_38 h_a rfl rfl (Nat.le_of_ble_eq_true rfl) (fun w9 t1 hs => ?_)
  have h_kinds := hs _ _ (fw_ao h_kinds h_a) h_kinds
  have h_moons := hs _ _ (fw_ao h_moons h_a) h_moons
  have h_places := hs _ _ (fw_ao h_places h_a) h_places
  have h_values := hs _ _ (fw_ao h_values h_a) h_values
  have hE := hE.frg hs (fun _ z => Or.inl z)
  have h_a : w9 a = some (.inr (4, [.ref q_kinds, .ref q_moons, .ref q_places, .ref q_values, .int 0])) := t1
  have hD := hD.keep (Al.of hs (fun _ z => (by rw [z]; exact ⟨_, h_a⟩)))
  refine vv_vret hC hR rfl dX4_init_41 (Nat.le_of_ble_eq_true rfl) (Nat.le_of_ble_eq_true rfl) ?_
  exact ⟨rfl, q_kinds, q_moons, q_places, q_values, hD, h_a, h_kinds, h_moons, h_places, h_values, hE⟩
set_option maxHeartbeats 8000000 in
set_option maxRecDepth 100000 in
theorem c_X5_init (g : GT) (w0 : Wd) (a : Nat) (h_a : w0 a = some (.inr (5, [.null, .null, .null, .int 0, .int 0, .long 0, .long 0]))) : CT g yX5_init cX5_init 1 none 1 20 3 1522 w0 [.ref a] (fun r w2 => r = none ∧ ∃ q1 q2 q3, DN w0 w2 [q3, q2, q1] ∧ w2 a = some (.inr (5, cTa q1 q2 q3 (0, 0, 0, 0))) ∧ w2 q1 = some (.inl (g.2.2.1 1, 64, .inr (.inl (fun _ => 0)))) ∧ w2 q2 = some (.inl (g.2.2.1 0, 729, .inl (fun _ => 0))) ∧ w2 q3 = some (.inl (g.2.2.1 0, 729, .inl (fun _ => 0))) ∧ wE (fun q => q = a) w0 w2) := by
  refine CT.of (own := RX5) (by decide +kernel) rfl (Nat.le_of_ble_eq_true rfl) (fun X hC hR hI => ?_)
  show V g X 1 w0 0 0 0 [(0, .ref a)] []
  have hE : wE (fun q => q = a) w0 w0 := wE.refl
  have hD : DN w0 w0 [] := DN.nil
  refine vv_aload_n hC 0 dX5_init_0 rfl rfl ?_
  refine vv_objInit hC lk_m_X5_3 dX5_init_1 (by decide) (Nat.le_of_ble_eq_true rfl) (Nat.le_of_ble_eq_true rfl) ?_
  refine vv_aload_n hC 0 dX5_init_4 rfl rfl ?_
  refine vv_bipush (v := 64) hC dX5_init_5 (by decide) ?_
  refine vv_newaJ (N := 64) hC lk_a_long dX5_init_7 (by decide) (by decide) (by decide) (Nat.le_of_ble_eq_true rfl) (Nat.le_of_ble_eq_true rfl) (fun q_fits w1 hq t1 hs => ?_)
  have n0_fits := hE.nn (fun _ z => (by rw [z]; exact ⟨_, h_a⟩)) hq
  have hZ := fun q (hq : w0 q = none) => hE.nn (fun _ z => (by rw [z]; exact ⟨_, h_a⟩)) hq
  have h_a := hs _ _ (fun z => z) h_a
  have hE := hE.frg hs (fun _ z => z.elim)
  have h_fits : w1 q_fits = some (.inl (g.2.2.1 1, 64, .inr (.inl (fun _ => 0)))) := t1
  have hD := hD.join (Al.of hs (fun _ z => z.elim)) (DN.one hq t1) hZ
  refine vv_putF hC (hI rfl) fp_X5_9 dX5_init_9 h_a rfl rfl (Nat.le_of_ble_eq_true rfl) (fun w2 t1 hs => ?_)
  have h_fits := hs _ _ (fw_ao h_fits h_a) h_fits
  have hE := hE.frg hs (fun _ z => Or.inl z)
  have h_a : w2 a = some (.inr (5, [.ref q_fits, .null, .null, .int 0, .int 0, .long 0, .long 0])) := t1
  have hD := hD.keep (Al.of hs (fun _ z => (by rw [z]; exact ⟨_, h_a⟩)))
  refine vv_aload_n hC 0 dX5_init_12 rfl rfl ?_
  refine vv_sipush (v := 729) hC dX5_init_13 (by decide) ?_
  refine vv_newaI (N := 729) hC lk_a_int dX5_init_16 (by decide) (by decide) (by decide) (Nat.le_of_ble_eq_true rfl) (Nat.le_of_ble_eq_true rfl) (fun q_left w3 hq t1 hs => ?_)
  have ne_fits_left := fr_ne h_fits hq
  have n0_left := hE.nn (fun _ z => (by rw [z]; exact ⟨_, h_a⟩)) hq
  have hZ := fun q (hq : w2 q = none) => hE.nn (fun _ z => (by rw [z]; exact ⟨_, h_a⟩)) hq
  have h_a := hs _ _ (fun z => z) h_a
  have h_fits := hs _ _ (fun z => z) h_fits
  have hE := hE.frg hs (fun _ z => z.elim)
  have h_left : w3 q_left = some (.inl (g.2.2.1 0, 729, .inl (fun _ => 0))) := t1
  have hD := hD.join (Al.of hs (fun _ z => z.elim)) (DN.one hq t1) hZ
  refine vv_putF hC (hI rfl) fp_X5_15 dX5_init_18 h_a rfl rfl (Nat.le_of_ble_eq_true rfl) (fun w4 t1 hs => ?_)
  have h_fits := hs _ _ (fw_ao h_fits h_a) h_fits
  have h_left := hs _ _ (fw_ao h_left h_a) h_left
  have hE := hE.frg hs (fun _ z => Or.inl z)
  have h_a : w4 a = some (.inr (5, [.ref q_fits, .ref q_left, .null, .int 0, .int 0, .long 0, .long 0])) := t1
  have hD := hD.keep (Al.of hs (fun _ z => (by rw [z]; exact ⟨_, h_a⟩)))
  refine vv_aload_n hC 0 dX5_init_21 rfl rfl ?_
  refine vv_sipush (v := 729) hC dX5_init_22 (by decide) ?_
  refine vv_newaI (N := 729) hC lk_a_int dX5_init_25 (by decide) (by decide) (by decide) (Nat.le_of_ble_eq_true rfl) (Nat.le_of_ble_eq_true rfl) (fun q_needs w5 hq t1 hs => ?_)
  have ne_fits_needs := fr_ne h_fits hq
  have ne_left_needs := fr_ne h_left hq
  have n0_needs := hE.nn (fun _ z => (by rw [z]; exact ⟨_, h_a⟩)) hq
  have hZ := fun q (hq : w4 q = none) => hE.nn (fun _ z => (by rw [z]; exact ⟨_, h_a⟩)) hq
  have h_a := hs _ _ (fun z => z) h_a
  have h_fits := hs _ _ (fun z => z) h_fits
  have h_left := hs _ _ (fun z => z) h_left
  have hE := hE.frg hs (fun _ z => z.elim)
  have h_needs : w5 q_needs = some (.inl (g.2.2.1 0, 729, .inl (fun _ => 0))) := t1
  have hD := hD.join (Al.of hs (fun _ z => z.elim)) (DN.one hq t1) hZ
  refine vv_putF hC (hI rfl) fp_X5_19 dX5_init_27 h_a rfl rfl (Nat.le_of_ble_eq_true rfl) (fun w6 t1 hs => ?_)
  have h_fits := hs _ _ (fw_ao h_fits h_a) h_fits
  have h_left := hs _ _ (fw_ao h_left h_a) h_left
  have h_needs := hs _ _ (fw_ao h_needs h_a) h_needs
  have hE := hE.frg hs (fun _ z => Or.inl z)
  have h_a : w6 a = some (.inr (5, [.ref q_fits, .ref q_left, .ref q_needs, .int 0, .int 0, .long 0, .long 0])) := t1
  have hD := hD.keep (Al.of hs (fun _ z => (by rw [z]; exact ⟨_, h_a⟩)))
  refine vv_aload_n hC 0 dX5_init_30 rfl rfl ?_
  refine vv_iconst (v := 0) hC dX5_init_31 (by decide) ?_
  refine vv_put hC fp_X5_22 dX5_init_32 h_a rfl rfl (Nat.le_of_ble_eq_true rfl) (fun w7 t1 hs => ?_)
  have h_fits := hs _ _ (fw_ao h_fits h_a) h_fits
  have h_left := hs _ _ (fw_ao h_left h_a) h_left
  have h_needs := hs _ _ (fw_ao h_needs h_a) h_needs
  have hE := hE.frg hs (fun _ z => Or.inl z)
  have h_a : w7 a = some (.inr (5, [.ref q_fits, .ref q_left, .ref q_needs, .int 0, .int 0, .long 0, .long 0])) := t1
  have hD := hD.keep (Al.of hs (fun _ z => (by rw [z]; exact ⟨_, h_a⟩)))
  refine vv_aload_n hC 0 dX5_init_35 rfl rfl ?_
  refine vv_iconst (v := 0) hC dX5_init_36 (by decide) ?_
  refine vv_put hC fp_X5_26 dX5_init_37 h_a rfl rfl (Nat.le_of_ble_eq_true rfl) (fun w8 t1 hs => ?_)
  have h_fits := hs _ _ (fw_ao h_fits h_a) h_fits
  have h_left := hs _ _ (fw_ao h_left h_a) h_left
  have h_needs := hs _ _ (fw_ao h_needs h_a) h_needs
  have hE := hE.frg hs (fun _ z => Or.inl z)
  have h_a : w8 a = some (.inr (5, [.ref q_fits, .ref q_left, .ref q_needs, .int 0, .int 0, .long 0, .long 0])) := t1
  have hD := hD.keep (Al.of hs (fun _ z => (by rw [z]; exact ⟨_, h_a⟩)))
  refine vv_aload_n hC 0 dX5_init_40 rfl rfl ?_
  refine vv_lconst (v := 0) hC dX5_init_41 (by decide) ?_
  refine vv_put hC fp_X5_29 dX5_init_42 h_a rfl rfl (Nat.le_of_ble_eq_true rfl) (fun w9 t1 hs => ?_)
  have h_fits := hs _ _ (fw_ao h_fits h_a) h_fits
  have h_left := hs _ _ (fw_ao h_left h_a) h_left
  have h_needs := hs _ _ (fw_ao h_needs h_a) h_needs
  have hE := hE.frg hs (fun _ z => Or.inl z)
  have h_a : w9 a = some (.inr (5, [.ref q_fits, .ref q_left, .ref q_needs, .int 0, .int 0, .long 0, .long 0])) := t1
  have hD := hD.keep (Al.of hs (fun _ z => (by rw [z]; exact ⟨_, h_a⟩)))
  refine vv_aload_n hC 0 dX5_init_45 rfl rfl ?_
  refine vv_lconst (v := 0) hC dX5_init_46 (by decide) ?_
  refine vv_put hC fp_X5_33 dX5_init_47 h_a rfl rfl (Nat.le_of_ble_eq_true rfl) (fun w10 t1 hs => ?_)
  have h_fits := hs _ _ (fw_ao h_fits h_a) h_fits
  have h_left := hs _ _ (fw_ao h_left h_a) h_left
  have h_needs := hs _ _ (fw_ao h_needs h_a) h_needs
  have hE := hE.frg hs (fun _ z => Or.inl z)
  have h_a : w10 a = some (.inr (5, [.ref q_fits, .ref q_left, .ref q_needs, .int 0, .int 0, .long 0, .long 0])) := t1
  have hD := hD.keep (Al.of hs (fun _ z => (by rw [z]; exact ⟨_, h_a⟩)))
  refine vv_vret hC hR rfl dX5_init_50 (Nat.le_of_ble_eq_true rfl) (Nat.le_of_ble_eq_true rfl) ?_
  exact ⟨rfl, q_fits, q_left, q_needs, hD, h_a, h_fits, h_left, h_needs, hE⟩
set_option maxHeartbeats 4000000 in
set_option maxRecDepth 100000 in
theorem c_X8_fillNights (g : GT) (w0 : Wd) (a N : Nat) (hN : N ≤ 16) (c0 : Nat → Option Nat) (h_a : w0 a = some (.inl (g.2.2.1 4, N, .inr (.inr (.inr (.inr (c0))))))) : CT g yX8_fillNights cX8_fillNights 2 none 2 40 N (10 * N) w0 [.ref a] (fun r w2 => r = none ∧ ∃ f c, DN w0 w2 ((List.range' 0 N).map f) ∧ w2 a = some (.inl (g.2.2.1 4, N, .inr (.inr (.inr (.inr (c)))))) ∧ (∀ i, i < N → c i = some (f i)) ∧ (∀ i, i < N → w2 (f i) = some (.inr (2, cN zN))) ∧ wE (fun q => q = a) w0 w2) := by
  refine CT.of (own := RX8) (by decide +kernel) rfl (Nat.le_of_ble_eq_true rfl) (fun X hC hR hI => ?_)
  show V g X 2 w0 0 0 0 [(0, .ref a)] []
  refine vv_iconst (v := 0) hC dX8_fillNights_0 (by decide) ?_
  refine vv_istore_n (lv2 := [(1, .int (nI 0)), (0, .ref a)]) hC dX8_fillNights_1 rfl (by decide) rfl ?_
  have hL : ∀ (r k : Nat) (w : Wd) (f : Nat → Nat) (c : Nat → Option Nat), k + r = N → DN w0 w ((List.range' 0 k).map f) → w a = some (.inl (g.2.2.1 4, N, .inr (.inr (.inr (.inr (c)))))) → (∀ i, i < k → c i = some (f i)) → (∀ i, i < k → w (f i) = some (.inr (2, cN zN))) → wE (fun q => q = a) w0 w → V g X 2 w k (10 * k) 2 [(1, .int (nI k)), (0, .ref a)] [] := by
    intro r
    induction r with
    | zero =>
      intro k w f c hk hD ha hc hf hE
      refine vv_iload_n hC 0 dX8_fillNights_2 rfl rfl ?_
      refine vv_aload_n hC 1 dX8_fillNights_3 rfl rfl ?_
      refine vv_alen_aldq (v := nI N) hC dX8_fillNights_4 ha rfl ?_
      refine vv_icmp_ge hC 24 dX8_fillNights_5 (by decide) (fun _ => ?_) (fun z => absurd ((nI_le_ (by omega) (by omega)).mpr (by omega)) z)
      obtain rfl : k = N := by omega
      refine vv_vret hC hR rfl dX8_fillNights_24 (Nat.le_refl _) (Nat.le_refl _) ?_
      exact ⟨rfl, f, c, hD, ha, hc, hf, hE⟩
    | succ r ih =>
      intro k w f c hk hD ha hc hf hE
      refine vv_iload_n hC 0 dX8_fillNights_2 rfl rfl ?_
      refine vv_aload_n hC 1 dX8_fillNights_3 rfl rfl ?_
      refine vv_alen_aldq (v := nI N) hC dX8_fillNights_4 ha rfl ?_
      refine vv_icmp_ge hC 24 dX8_fillNights_5 (by decide) (fun z => absurd ((nI_le_ (by omega) (by omega)).mp z) (by omega)) (fun _ => ?_)
      refine vv_aload_n hC 1 dX8_fillNights_8 rfl rfl ?_
      refine vv_iload_n hC 0 dX8_fillNights_9 rfl rfl ?_
      refine vv_new (ci := 2) (fs := cN zN) hC fpcX2 rfl lk_o_X8_23 lk_b_X2 lk_z_X2 dX8_fillNights_10 nfsX2 (by dsimp only; omega) (by dsimp only; omega) (fun q w1 hq t1 hs => ?_)
      have hq0 := hE.nn (fun _ z => (by rw [z]; exact ⟨_, ha⟩)) hq
      have ne_a : ¬ a = q := fr_ne ha hq
      have hZ := fun q (hq : w q = none) => hE.nn (fun _ z => (by rw [z]; exact ⟨_, ha⟩)) hq
      have hAl1 : Al w w1 := Al.of hs (fun _ z => z.elim)
      have ha1 := hs _ _ (fun z => z) ha
      have hf1 := fun i hi => hs _ _ (fun z => z) (hf i hi)
      have hE1 := hE.frg hs (fun _ z => z.elim)
      have hD1 := hD.keep hAl1
      refine vv_dup hC dX8_fillNights_13 rfl ?_
      refine vv_callIN hC dX8_fillNights_14 md_X2_init lk_n_X8_25 lk_i_X2_init rfl (As := []) (rest := [.ref q, .int (nI k), .ref a]) (c_X2_init g w1 q zN t1) rfl rfl (Nat.le_of_ble_eq_true rfl) ⟨by dsimp only; omega, by dsimp only; omega, by dsimp only; omega, by dsimp only; omega⟩ (fun r9 w9 hq9 => ?_)
      obtain ⟨rfl, t2, hs2⟩ := hq9
      have hq2 : w9 q = some (.inr (2, cN zN)) := t2
      have ha2 := hs2 _ _ ne_a ha1
      have hf2 := fun i hi => hs2 _ _ (fr_ne (hf i hi) hq) (hf1 i hi)
      have hE2 := hE1.frg hs2 (fun _ z => Or.inr (by rw [z]; exact hq0))
      have hD2 := hD1.keep (Al.of hs2 (fun _ z => (by rw [z]; exact ⟨_, hq2⟩)))
      show V g X 2 w9 (k + 1) (10 * k + 10) 17 [(1, .int (nI k)), (0, .ref a)] [.ref q, .int (nI k), .ref a]
      refine vv_astq hC dX8_fillNights_17 ha2 hq2 (nI_in_ (by omega) (by omega)) (fun w3 t3 hs3 => ?_)
      rw [nI_cl (by omega)] at t3
      have hq3 := hs3 _ _ (fun z => ne_a z.symm) hq2
      have hf3 := fun i hi => hs3 _ _ (fw_oa (hf2 i hi) ha2) (hf2 i hi)
      have hE3 := hE2.frg hs3 (fun _ z => Or.inl z)
      have hAl : Al w w3 := fun x e hx => (hAl1 x e hx).elim fun e1 h1 => ((Al.of hs2 (fun _ z => (by rw [z]; exact ⟨_, hq2⟩))) x e1 h1).elim fun e2 h2 => (Al.of hs3 (fun _ z => (by rw [z]; exact ⟨_, t3⟩))) x e2 h2
      have hJ : DN w w3 [q] := DN.one hq hq3
      have hnd : (List.map (fun i => if i = k then q else f i) (List.range' 0 k) ++ [q]).Perm ([q] ++ List.map f (List.range' 0 k)) := by
        refine (List.perm_append_comm).trans ?_
        refine List.Perm.append_left _ (List.Perm.of_eq (List.map_congr_left fun i hi => if_neg ?_))
        have := List.mem_range'_1.mp hi
        omega
      refine vv_iinc (lv2 := [(1, .int (nI (k + 1))), (0, .ref a)]) hC 0 dX8_fillNights_18 rfl (nI_add k 1) (by decide) rfl ?_
      refine vv_goto hC 2 dX8_fillNights_21 (by decide) ?_
      refine ih (k + 1) w3 (fun i => if i = k then q else f i) _ (by omega) ?_ t3 (fun i hi => ?_) (fun i hi => ?_) hE3
      · have hj := hD.join hAl hJ hZ
        rw [List.range'_1_concat, List.map_append]
        have e0 : List.map (fun i => if i = k then q else f i) [0 + k] = [q] := by simp
        rw [e0]
        exact ⟨hnd.symm.nodup hj.1, fun x hx => hj.2 x (hnd.mem_iff.mp hx)⟩
      · show (if i = k then some q else c i) = _
        split
        · rfl
        · exact hc i (by omega)
      · by_cases e : i = k
        · rw [if_pos e]; exact hq3
        · rw [if_neg e]; exact hf3 i (by omega)
  exact hL N 0 w0 (fun _ => 0) c0 (by omega) DN.nil h_a (fun i hi => absurd hi (by omega)) (fun i hi => absurd hi (by omega)) wE.refl
set_option maxHeartbeats 8000000 in
set_option maxRecDepth 100000 in
theorem c_X0_init (g : GT) (w0 : Wd) (a : Nat) (h_a : w0 a = some (.inr (0, [.null, .int 0, .int 0]))) : CT g yX0_init cX0_init 1 none 3 70 17 176 w0 [.ref a] (fun r w2 => r = none ∧ ∃ q1 f c, DN w0 w2 ((List.range' 0 16).map f ++ [q1]) ∧ w2 a = some (.inr (0, cAc q1 (0, 0))) ∧ w2 q1 = some (.inl (g.2.2.1 4, 16, .inr (.inr (.inr (.inr (c)))))) ∧ (∀ i, i < 16 → c i = some (f i)) ∧ (∀ i, i < 16 → w2 (f i) = some (.inr (2, cN zN))) ∧ wE (fun q => q = a) w0 w2) := by
  refine CT.of (own := RX0) (by decide +kernel) rfl (Nat.le_of_ble_eq_true rfl) (fun X hC hR hI => ?_)
  show V g X 1 w0 0 0 0 [(0, .ref a)] []
  have hE : wE (fun q => q = a) w0 w0 := wE.refl
  have hD : DN w0 w0 [] := DN.nil
  refine vv_aload_n hC 0 dX0_init_0 rfl rfl ?_
  refine vv_objInit hC lk_m_X0_3 dX0_init_1 (by decide) (Nat.le_of_ble_eq_true rfl) (Nat.le_of_ble_eq_true rfl) ?_
  refine vv_aload_n hC 0 dX0_init_4 rfl rfl ?_
  refine vv_bipush (v := 16) hC dX0_init_5 (by decide) ?_
  refine vv_newq (N := 16) hC lk_o_X0_9 dX0_init_7 (by decide) (by decide) (by decide) (Nat.le_of_ble_eq_true rfl) (Nat.le_of_ble_eq_true rfl) (fun q_before w1 hq t1 hs => ?_)
  have n0_before := hE.nn (fun _ z => (by rw [z]; exact ⟨_, h_a⟩)) hq
  have hZ := fun q (hq : w0 q = none) => hE.nn (fun _ z => (by rw [z]; exact ⟨_, h_a⟩)) hq
  have h_a := hs _ _ (fun z => z) h_a
  have hE := hE.frg hs (fun _ z => z.elim)
  have h_before : w1 q_before = some (.inl (g.2.2.1 4, 16, .inr (.inr (.inr (.inr (fun _ => none)))))) := t1
  have hD := hD.join (Al.of hs (fun _ z => z.elim)) (DN.one hq t1) hZ
  refine vv_putF hC (hI rfl) fp_X0_11 dX0_init_10 h_a rfl rfl (Nat.le_of_ble_eq_true rfl) (fun w2 t1 hs => ?_)
  have h_before := hs _ _ (fw_ao h_before h_a) h_before
  have hE := hE.frg hs (fun _ z => Or.inl z)
  have h_a : w2 a = some (.inr (0, [.ref q_before, .int 0, .int 0])) := t1
  have hD := hD.keep (Al.of hs (fun _ z => (by rw [z]; exact ⟨_, h_a⟩)))
  refine vv_aload_n hC 0 dX0_init_13 rfl rfl ?_
  refine vv_iconst (v := 0) hC dX0_init_14 (by decide) ?_
  refine vv_put hC fp_X0_17 dX0_init_15 h_a rfl rfl (Nat.le_of_ble_eq_true rfl) (fun w3 t1 hs => ?_)
  have h_before := hs _ _ (fw_ao h_before h_a) h_before
  have hE := hE.frg hs (fun _ z => Or.inl z)
  have h_a : w3 a = some (.inr (0, [.ref q_before, .int 0, .int 0])) := t1
  have hD := hD.keep (Al.of hs (fun _ z => (by rw [z]; exact ⟨_, h_a⟩)))
  refine vv_aload_n hC 0 dX0_init_18 rfl rfl ?_
  refine vv_iconst (v := 0) hC dX0_init_19 (by decide) ?_
  refine vv_put hC fp_X0_21 dX0_init_20 h_a rfl rfl (Nat.le_of_ble_eq_true rfl) (fun w4 t1 hs => ?_)
  have h_before := hs _ _ (fw_ao h_before h_a) h_before
  have hE := hE.frg hs (fun _ z => Or.inl z)
  have h_a : w4 a = some (.inr (0, [.ref q_before, .int 0, .int 0])) := t1
  have hD := hD.keep (Al.of hs (fun _ z => (by rw [z]; exact ⟨_, h_a⟩)))
  refine vv_aload_n hC 0 dX0_init_23 rfl rfl ?_
  refine vv_get (v := .ref q_before) hC fl_X0_11 dX0_init_24 h_a rfl ?_
  refine vv_callSN hC dX0_init_27 md_X8_fillNights lk_n_X0_24 lk_t_X8_fillNights (As := [.ref q_before]) (rest := []) (c_X8_fillNights g w4 q_before 16 (by decide) (fun _ => none) h_before) rfl rfl (Nat.le_of_ble_eq_true rfl) ⟨Nat.le_of_ble_eq_true rfl, Nat.le_of_ble_eq_true rfl, Nat.le_of_ble_eq_true rfl, Nat.le_of_ble_eq_true rfl⟩ (fun r w9 hq => ?_)
  obtain ⟨rfl, f_bf, c_bf, dn, t1, bf_at, t2, hs⟩ := hq
  obtain ⟨w5, rfl⟩ : ∃ z, z = w9 := ⟨_, rfl⟩
  have hZ := fun q (hq : w4 q = none) => hE.nn (fun _ z => (by rw [z]; exact ⟨_, h_a⟩)) hq
  have hD := hD.join (Al.of hs (fun _ z => (by rw [z]; exact ⟨_, t1⟩))) dn hZ
  have h_a := hs _ _ (fw_oa h_a h_before) h_a
  have hE := hE.frg hs (fun _ z => Or.inr (by rw [z]; exact n0_before))
  have h_before : w5 q_before = some (.inl (g.2.2.1 4, 16, .inr (.inr (.inr (.inr (c_bf)))))) := t1
  have h_bf : ∀ i, i < 16 → w5 (f_bf i) = some (.inr (2, cN zN)) := t2
  show V g X 1 w5 17 176 30 [(0, .ref a)] []
  refine vv_vret hC hR rfl dX0_init_30 (Nat.le_of_ble_eq_true rfl) (Nat.le_of_ble_eq_true rfl) ?_
  exact ⟨rfl, q_before, f_bf, c_bf, hD, h_a, h_before, bf_at, h_bf, hE⟩
set_option maxHeartbeats 8000000 in
set_option maxRecDepth 100000 in
theorem c_X1_init (g : GT) (w0 : Wd) (a : Nat) (h_a : w0 a = some (.inr (1, [.null, .null]))) : CT g yX1_init cX1_init 1 none 3 70 18 187 w0 [.ref a] (fun r w2 => r = none ∧ ∃ q1 q2 f c, DN w0 w2 ((List.range' 0 16).map f ++ [q2, q1]) ∧ w2 a = some (.inr (1, cCh q1 q2)) ∧ w2 q1 = some (.inl (g.2.2.1 4, 16, .inr (.inr (.inr (.inr (c)))))) ∧ (∀ i, i < 16 → c i = some (f i)) ∧ (∀ i, i < 16 → w2 (f i) = some (.inr (2, cN zN))) ∧ wE (fun q => q = a) w0 w2) := by
  refine CT.of (own := RX1) (by decide +kernel) rfl (Nat.le_of_ble_eq_true rfl) (fun X hC hR hI => ?_)
  show V g X 1 w0 0 0 0 [(0, .ref a)] []
  have hE : wE (fun q => q = a) w0 w0 := wE.refl
  have hD : DN w0 w0 [] := DN.nil
  refine vv_aload_n hC 0 dX1_init_0 rfl rfl ?_
  refine vv_objInit hC lk_m_X1_3 dX1_init_1 (by decide) (Nat.le_of_ble_eq_true rfl) (Nat.le_of_ble_eq_true rfl) ?_
  refine vv_aload_n hC 0 dX1_init_4 rfl rfl ?_
  refine vv_bipush (v := 16) hC dX1_init_5 (by decide) ?_
  refine vv_newq (N := 16) hC lk_o_X1_9 dX1_init_7 (by decide) (by decide) (by decide) (Nat.le_of_ble_eq_true rfl) (Nat.le_of_ble_eq_true rfl) (fun q_steps w1 hq t1 hs => ?_)
  have n0_steps := hE.nn (fun _ z => (by rw [z]; exact ⟨_, h_a⟩)) hq
  have hZ := fun q (hq : w0 q = none) => hE.nn (fun _ z => (by rw [z]; exact ⟨_, h_a⟩)) hq
  have h_a := hs _ _ (fun z => z) h_a
  have hE := hE.frg hs (fun _ z => z.elim)
  have h_steps : w1 q_steps = some (.inl (g.2.2.1 4, 16, .inr (.inr (.inr (.inr (fun _ => none)))))) := t1
  have hD := hD.join (Al.of hs (fun _ z => z.elim)) (DN.one hq t1) hZ
  refine vv_putF hC (hI rfl) fp_X1_11 dX1_init_10 h_a rfl rfl (Nat.le_of_ble_eq_true rfl) (fun w2 t1 hs => ?_)
  have h_steps := hs _ _ (fw_ao h_steps h_a) h_steps
  have hE := hE.frg hs (fun _ z => Or.inl z)
  have h_a : w2 a = some (.inr (1, [.ref q_steps, .null])) := t1
  have hD := hD.keep (Al.of hs (fun _ z => (by rw [z]; exact ⟨_, h_a⟩)))
  refine vv_aload_n hC 0 dX1_init_13 rfl rfl ?_
  refine vv_new (ci := 7) (fs := cVi zVi) hC fpcX7 rfl lk_o_X1_17 lk_b_X7 lk_z_X7 dX1_init_14 nfsX7 (Nat.le_of_ble_eq_true rfl) (Nat.le_of_ble_eq_true rfl) (fun q_cv w3 hq t1 hs => ?_)
  have n0_cv := hE.nn (fun _ z => (by rw [z]; exact ⟨_, h_a⟩)) hq
  have hZ := fun q (hq : w2 q = none) => hE.nn (fun _ z => (by rw [z]; exact ⟨_, h_a⟩)) hq
  have h_a := hs _ _ (fun z => z) h_a
  have h_steps := hs _ _ (fun z => z) h_steps
  have hE := hE.frg hs (fun _ z => z.elim)
  have h_cv : w3 q_cv = some (.inr (7, cVi zVi)) := t1
  have hD := hD.join (Al.of hs (fun _ z => z.elim)) (DN.one hq t1) hZ
  refine vv_dup hC dX1_init_17 rfl ?_
  refine vv_callIN hC dX1_init_18 md_X7_init lk_n_X1_19 lk_i_X7_init rfl (As := []) (rest := [.ref q_cv, .ref a]) (c_X7_init g w3 q_cv zVi h_cv) rfl rfl (Nat.le_of_ble_eq_true rfl) ⟨Nat.le_of_ble_eq_true rfl, Nat.le_of_ble_eq_true rfl, Nat.le_of_ble_eq_true rfl, Nat.le_of_ble_eq_true rfl⟩ (fun r w9 hq => ?_)
  obtain ⟨rfl, t1, hs⟩ := hq
  obtain ⟨w4, rfl⟩ : ∃ z, z = w9 := ⟨_, rfl⟩
  have h_a := hs _ _ (fw_oo h_a h_cv (by decide)) h_a
  have h_steps := hs _ _ (fw_ao h_steps h_cv) h_steps
  have hE := hE.frg hs (fun _ z => Or.inr (by rw [z]; exact n0_cv))
  have h_cv : w4 q_cv = some (.inr (7, cVi zVi)) := t1
  have hD := hD.keep (Al.of hs (fun _ z => (by rw [z]; exact ⟨_, h_cv⟩)))
  show V g X 1 w4 2 27 21 [(0, .ref a)] [.ref q_cv, .ref a]
  refine vv_put hC fp_X1_20 dX1_init_21 h_a rfl rfl (Nat.le_of_ble_eq_true rfl) (fun w5 t1 hs => ?_)
  have h_steps := hs _ _ (fw_ao h_steps h_a) h_steps
  have h_cv := hs _ _ (fw_oo h_cv h_a (by decide)) h_cv
  have hE := hE.frg hs (fun _ z => Or.inl z)
  have h_a : w5 a = some (.inr (1, [.ref q_steps, .ref q_cv])) := t1
  have hD := hD.keep (Al.of hs (fun _ z => (by rw [z]; exact ⟨_, h_a⟩)))
  refine vv_aload_n hC 0 dX1_init_24 rfl rfl ?_
  refine vv_get (v := .ref q_steps) hC fl_X1_11 dX1_init_25 h_a rfl ?_
  refine vv_callSN hC dX1_init_28 md_X8_fillNights lk_n_X1_24 lk_t_X8_fillNights (As := [.ref q_steps]) (rest := []) (c_X8_fillNights g w5 q_steps 16 (by decide) (fun _ => none) h_steps) rfl rfl (Nat.le_of_ble_eq_true rfl) ⟨Nat.le_of_ble_eq_true rfl, Nat.le_of_ble_eq_true rfl, Nat.le_of_ble_eq_true rfl, Nat.le_of_ble_eq_true rfl⟩ (fun r w9 hq => ?_)
  obtain ⟨rfl, f_sf, c_sf, dn, t1, sf_at, t2, hs⟩ := hq
  obtain ⟨w6, rfl⟩ : ∃ z, z = w9 := ⟨_, rfl⟩
  have hZ := fun q (hq : w5 q = none) => hE.nn (fun _ z => (by rw [z]; exact ⟨_, h_a⟩)) hq
  have hD := hD.join (Al.of hs (fun _ z => (by rw [z]; exact ⟨_, t1⟩))) dn hZ
  have h_a := hs _ _ (fw_oa h_a h_steps) h_a
  have h_cv := hs _ _ (fw_oa h_cv h_steps) h_cv
  have hE := hE.frg hs (fun _ z => Or.inr (by rw [z]; exact n0_steps))
  have h_steps : w6 q_steps = some (.inl (g.2.2.1 4, 16, .inr (.inr (.inr (.inr (c_sf)))))) := t1
  have h_sf : ∀ i, i < 16 → w6 (f_sf i) = some (.inr (2, cN zN)) := t2
  show V g X 1 w6 18 187 31 [(0, .ref a)] []
  refine vv_vret hC hR rfl dX1_init_31 (Nat.le_of_ble_eq_true rfl) (Nat.le_of_ble_eq_true rfl) ?_
  exact ⟨rfl, q_steps, q_cv, f_sf, c_sf, hD, h_a, h_steps, sf_at, h_sf, hE⟩
set_option maxHeartbeats 8000000 in
set_option maxRecDepth 100000 in
theorem c_X3_init (g : GT) (w0 : Wd) (t : Nat) (a : Nat) (h_a : w0 a = some (.inr (3, [.null, .null, .int 0, .int 0, .int 0]))) : CT g yX3_init cX3_init 2 none 2 60 1 11 w0 [.ref a, .ref t] (fun r w2 => r = none ∧ ∃ q1, DN w0 w2 [q1] ∧ w2 a = some (.inr (3, cRd t q1 (0, -9, -9))) ∧ w2 q1 = some (.inr (7, cVi zVi)) ∧ wE (fun q => q = a) w0 w2) := by
  refine CT.of (own := RX3) (by decide +kernel) rfl (Nat.le_of_ble_eq_true rfl) (fun X hC hR hI => ?_)
  show V g X 2 w0 0 0 0 [(0, .ref a), (1, .ref t)] []
  have hE : wE (fun q => q = a) w0 w0 := wE.refl
  have hD : DN w0 w0 [] := DN.nil
  refine vv_aload_n hC 0 dX3_init_0 rfl rfl ?_
  refine vv_objInit hC lk_m_X3_3 dX3_init_1 (by decide) (Nat.le_of_ble_eq_true rfl) (Nat.le_of_ble_eq_true rfl) ?_
  refine vv_aload_n hC 0 dX3_init_4 rfl rfl ?_
  refine vv_new (ci := 7) (fs := cVi zVi) hC fpcX7 rfl lk_o_X3_9 lk_b_X7 lk_z_X7 dX3_init_5 nfsX7 (Nat.le_of_ble_eq_true rfl) (Nat.le_of_ble_eq_true rfl) (fun q_vi w1 hq t1 hs => ?_)
  have n0_vi := hE.nn (fun _ z => (by rw [z]; exact ⟨_, h_a⟩)) hq
  have hZ := fun q (hq : w0 q = none) => hE.nn (fun _ z => (by rw [z]; exact ⟨_, h_a⟩)) hq
  have h_a := hs _ _ (fun z => z) h_a
  have hE := hE.frg hs (fun _ z => z.elim)
  have h_vi : w1 q_vi = some (.inr (7, cVi zVi)) := t1
  have hD := hD.join (Al.of hs (fun _ z => z.elim)) (DN.one hq t1) hZ
  refine vv_dup hC dX3_init_8 rfl ?_
  refine vv_callIN hC dX3_init_9 md_X7_init lk_n_X3_11 lk_i_X7_init rfl (As := []) (rest := [.ref q_vi, .ref a]) (c_X7_init g w1 q_vi zVi h_vi) rfl rfl (Nat.le_of_ble_eq_true rfl) ⟨Nat.le_of_ble_eq_true rfl, Nat.le_of_ble_eq_true rfl, Nat.le_of_ble_eq_true rfl, Nat.le_of_ble_eq_true rfl⟩ (fun r w9 hq => ?_)
  obtain ⟨rfl, t1, hs⟩ := hq
  obtain ⟨w2, rfl⟩ : ∃ z, z = w9 := ⟨_, rfl⟩
  have h_a := hs _ _ (fw_oo h_a h_vi (by decide)) h_a
  have hE := hE.frg hs (fun _ z => Or.inr (by rw [z]; exact n0_vi))
  have h_vi : w2 q_vi = some (.inr (7, cVi zVi)) := t1
  have hD := hD.keep (Al.of hs (fun _ z => (by rw [z]; exact ⟨_, h_vi⟩)))
  show V g X 2 w2 1 11 12 [(0, .ref a), (1, .ref t)] [.ref q_vi, .ref a]
  refine vv_putF hC (hI rfl) fp_X3_12 dX3_init_12 h_a rfl rfl (Nat.le_of_ble_eq_true rfl) (fun w3 t1 hs => ?_)
  have h_vi := hs _ _ (fw_oo h_vi h_a (by decide)) h_vi
  have hE := hE.frg hs (fun _ z => Or.inl z)
  have h_a : w3 a = some (.inr (3, [.null, .ref q_vi, .int 0, .int 0, .int 0])) := t1
  have hD := hD.keep (Al.of hs (fun _ z => (by rw [z]; exact ⟨_, h_a⟩)))
  refine vv_aload_n hC 0 dX3_init_15 rfl rfl ?_
  refine vv_iconst (v := 0) hC dX3_init_16 (by decide) ?_
  refine vv_put hC fp_X3_18 dX3_init_17 h_a rfl rfl (Nat.le_of_ble_eq_true rfl) (fun w4 t1 hs => ?_)
  have h_vi := hs _ _ (fw_oo h_vi h_a (by decide)) h_vi
  have hE := hE.frg hs (fun _ z => Or.inl z)
  have h_a : w4 a = some (.inr (3, [.null, .ref q_vi, .int 0, .int 0, .int 0])) := t1
  have hD := hD.keep (Al.of hs (fun _ z => (by rw [z]; exact ⟨_, h_a⟩)))
  refine vv_aload_n hC 0 dX3_init_20 rfl rfl ?_
  refine vv_bipush (v := (-9)) hC dX3_init_21 (by decide) ?_
  refine vv_put hC fp_X3_22 dX3_init_23 h_a rfl rfl (Nat.le_of_ble_eq_true rfl) (fun w5 t1 hs => ?_)
  have h_vi := hs _ _ (fw_oo h_vi h_a (by decide)) h_vi
  have hE := hE.frg hs (fun _ z => Or.inl z)
  have h_a : w5 a = some (.inr (3, [.null, .ref q_vi, .int 0, .int (-9), .int 0])) := t1
  have hD := hD.keep (Al.of hs (fun _ z => (by rw [z]; exact ⟨_, h_a⟩)))
  refine vv_aload_n hC 0 dX3_init_26 rfl rfl ?_
  refine vv_bipush (v := (-9)) hC dX3_init_27 (by decide) ?_
  refine vv_put hC fp_X3_25 dX3_init_29 h_a rfl rfl (Nat.le_of_ble_eq_true rfl) (fun w6 t1 hs => ?_)
  have h_vi := hs _ _ (fw_oo h_vi h_a (by decide)) h_vi
  have hE := hE.frg hs (fun _ z => Or.inl z)
  have h_a : w6 a = some (.inr (3, [.null, .ref q_vi, .int 0, .int (-9), .int (-9)])) := t1
  have hD := hD.keep (Al.of hs (fun _ z => (by rw [z]; exact ⟨_, h_a⟩)))
  refine vv_aload_n hC 0 dX3_init_32 rfl rfl ?_
  refine vv_aload_n hC 1 dX3_init_33 rfl rfl ?_
  refine vv_putF hC (hI rfl) fp_X3_28 dX3_init_34 h_a rfl rfl (Nat.le_of_ble_eq_true rfl) (fun w7 t1 hs => ?_)
  have h_vi := hs _ _ (fw_oo h_vi h_a (by decide)) h_vi
  have hE := hE.frg hs (fun _ z => Or.inl z)
  have h_a : w7 a = some (.inr (3, [.ref t, .ref q_vi, .int 0, .int (-9), .int (-9)])) := t1
  have hD := hD.keep (Al.of hs (fun _ z => (by rw [z]; exact ⟨_, h_a⟩)))
  refine vv_vret hC hR rfl dX3_init_37 (Nat.le_of_ble_eq_true rfl) (Nat.le_of_ble_eq_true rfl) ?_
  exact ⟨rfl, q_vi, hD, h_a, h_vi, hE⟩
/-- all that the class keeps, at the addresses A and vi -/
def WX (g : GT) (A : Nat → Nat) (vi cv : Nat) (keptSlots : Int32) (seed : Int64) (tl : Nat) (bytes : Nat → Int32) (v : TVi) (now thought : TN) (st ct : Nat) (before slots steps : Nat → Option Nat) (bs ss : Nat → TN) (sc : Nat) (kinds moons places values : Nat → Int32) (ta : TTa) (fits : Nat → Int64) (left needs : Nat → Int32) (w : Wd) : Prop := w (A 0) = some (.inr (8, cWh A vi (keptSlots, seed))) ∧ w (A 1) = some (.inr (6, cTx (A 2) tl)) ∧ w (A 2) = some (.inl (g.2.2.1 2, 96, .inl (bytes))) ∧ w vi = some (.inr (7, cVi v)) ∧ w (A 3) = some (.inr (2, cN now)) ∧ w (A 4) = some (.inr (2, cN thought)) ∧ w (A 5) = some (.inr (0, cAc (A 6) (st, ct))) ∧ w (A 6) = some (.inl (g.2.2.1 4, 16, .inr (.inr (.inr (.inr (before)))))) ∧ (∀ i, i < 16 → before i = some (A (20 + i))) ∧ (∀ i, i < 16 → w (A (20 + i)) = some (.inr (2, cN (bs i)))) ∧ w (A 7) = some (.inl (g.2.2.1 4, 2, .inr (.inr (.inr (.inr (slots)))))) ∧ (∀ i, i < 2 → slots i = some (A (36 + i))) ∧ (∀ i, i < 2 → w (A (36 + i)) = some (.inr (2, cN (ss i)))) ∧ w (A 8) = some (.inr (4, cSi (A 9) (A 10) (A 11) (A 12) sc)) ∧ w (A 9) = some (.inl (g.2.2.1 0, 6, .inl (kinds))) ∧ w (A 10) = some (.inl (g.2.2.1 0, 6, .inl (moons))) ∧ w (A 11) = some (.inl (g.2.2.1 0, 6, .inl (places))) ∧ w (A 12) = some (.inl (g.2.2.1 0, 6, .inl (values))) ∧ w (A 13) = some (.inr (5, cTa (A 14) (A 15) (A 16) ta)) ∧ w (A 14) = some (.inl (g.2.2.1 1, 64, .inr (.inl (fits)))) ∧ w (A 15) = some (.inl (g.2.2.1 0, 729, .inl (left))) ∧ w (A 16) = some (.inl (g.2.2.1 0, 729, .inl (needs))) ∧ w (A 17) = some (.inr (1, cCh (A 18) cv)) ∧ w (A 18) = some (.inl (g.2.2.1 4, 16, .inr (.inr (.inr (.inr (steps)))))) ∧ (∀ i, i < 16 → steps i = some (A (40 + i))) ∧ (∀ i, i < 16 → ∃ n, w (A (40 + i)) = some (.inr (2, cN n)))
/-- the used ones of the addresses A -/
def uA (i : Nat) : Prop := i < 19 ∨ (20 ≤ i ∧ i < 38) ∨ (40 ≤ i ∧ i < 56)
/-- places of a list as addresses; what is behind its end is behind all of them -/
def lsum : List Nat → Nat
  | [] => 0
  | a :: l => a + lsum l + 1
theorem lsum_lt : ∀ {l : List Nat} {x : Nat}, x ∈ l → x < lsum l := by
  intro l
  induction l with
  | nil => intro x h; cases h
  | cons a l ih =>
    intro x h
    show x < a + lsum l + 1
    rcases List.mem_cons.mp h with rfl | h
    · omega
    · have := ih h; omega
def lad (l : List Nat) (i : Nat) : Nat := match l[i]? with
  | some a => a
  | none => lsum l + i
theorem lad_inj {l : List Nat} (h : l.Nodup) {i j : Nat} (e : lad l i = lad l j) : i = j := by
  unfold lad at e
  cases hi : l[i]? with
  | none =>
    cases hj : l[j]? with
    | none => rw [hi, hj] at e; dsimp only at e; omega
    | some b =>
      rw [hi, hj] at e; dsimp only at e
      have := lsum_lt (List.mem_of_getElem? hj); omega
  | some a =>
    cases hj : l[j]? with
    | none =>
      rw [hi, hj] at e; dsimp only at e
      have := lsum_lt (List.mem_of_getElem? hi); omega
    | some b =>
      rw [hi, hj] at e; dsimp only at e
      subst e
      obtain ⟨h1, e1⟩ := List.getElem?_eq_some_iff.mp hi
      obtain ⟨h2, e2⟩ := List.getElem?_eq_some_iff.mp hj
      have hp := List.pairwise_iff_getElem.mp h
      refine Classical.byContradiction fun hne => ?_
      rcases Nat.lt_or_gt_of_ne hne with hl | hl
      · exact hp i j h1 h2 hl (e1.trans e2.symm)
      · exact hp j i h2 h1 hl (e2.trans e1.symm)
theorem lad_none {w0 w : Wd} {l r : List Nat} {i : Nat} (hD : DN w0 w l) (h : i < l.length) : w0 (lad (l ++ r) i) = none := by
  have h2 : l[i] ∈ l := List.getElem_mem h
  unfold lad
  rw [List.getElem?_append_left h, List.getElem?_eq_getElem h]
  exact (hD.2 _ h2).1
theorem lad_lt {l : List Nat} {i : Nat} (h : i < l.length) : lad l i ∈ l := by
  unfold lad
  rw [List.getElem?_eq_getElem h]
  exact List.getElem_mem h
def sgA (i : Nat) : Nat := [54, 53, 52, 50, 49, 48, 47, 30, 29, 28, 27, 26, 25, 24, 23, 22, 21, 20, 19, 18, 31, 32, 33, 34, 35, 36, 37, 38, 39, 40, 41, 42, 43, 44, 45, 46, 0, 1, 51, 55, 2, 3, 4, 5, 6, 7, 8, 9, 10, 11, 12, 13, 14, 15, 16, 17, 56, 57, 58, 59].getD i 0
theorem sgA_inj' : ∀ i, i < 60 → ∀ j, j < 60 → sgA i = sgA j → i = j := by decide +kernel
theorem sgA_inj : ∀ i j, i < 60 → j < 60 → sgA i = sgA j → i = j := fun i j h1 h2 => sgA_inj' i h1 j h2
theorem sgA_u' : ∀ i, i < 60 → (i < 19 ∨ (20 ≤ i ∧ i < 38) ∨ (40 ≤ i ∧ i < 56)) → i ≠ 0 → sgA i < 54 := by decide +kernel
theorem sgA_u (i : Nat) (h : uA i) (h0 : i ≠ 0) : sgA i < 54 := sgA_u' i (by unfold uA at h; omega) h h0
set_option maxHeartbeats 8000000 in
set_option maxRecDepth 100000 in
theorem c_X8_init (g : GT) (w0 : Wd) (a : Nat) (h_a : w0 a = some (.inr (8, [.null, .null, .null, .null, .null, .null, .int 0, .null, .null, .null, .long 0]))) : CT g yX8_init cX8_init 1 none 5 130 54 2077 w0 [.ref a] (fun r w2 => r = none ∧ ∃ (A : Nat → Nat) (vi cv : Nat) (before slots steps : Nat → Option Nat), (∀ i j, i < 60 → j < 60 → A i = A j → i = j) ∧ A 0 = a ∧ WX g A vi cv 0 0 0 (fun _ => 0) zVi zN zN 0 0 before slots steps (fun _ => zN) (fun _ => zN) 0 (fun _ => 0) (fun _ => 0) (fun _ => 0) (fun _ => 0) (0, 0, 0, 0) (fun _ => 0) (fun _ => 0) (fun _ => 0) w2 ∧ (∀ i, uA i → i ≠ 0 → w0 (A i) = none) ∧ wE (fun q => q = a) w0 w2) := by
  refine CT.of (own := RX8) (by decide +kernel) rfl (Nat.le_of_ble_eq_true rfl) (fun X hC hR hI => ?_)
  have h_a0 := h_a
  show V g X 1 w0 0 0 0 [(0, .ref a)] []
  have hE : wE (fun q => q = a) w0 w0 := wE.refl
  have hD : DN w0 w0 [] := DN.nil
  refine vv_aload_n hC 0 dX8_init_0 rfl rfl ?_
  refine vv_objInit hC lk_m_X8_1 dX8_init_1 (by decide) (Nat.le_of_ble_eq_true rfl) (Nat.le_of_ble_eq_true rfl) ?_
  refine vv_aload_n hC 0 dX8_init_4 rfl rfl ?_
  refine vv_new (ci := 6) (fs := [.null, .int 0]) hC fpcX6 rfl lk_o_X8_7 lk_b_X6 lk_z_X6 dX8_init_5 nfsX6 (Nat.le_of_ble_eq_true rfl) (Nat.le_of_ble_eq_true rfl) (fun q_text w1 hq t1 hs => ?_)
  have n0_text := hE.nn (fun _ z => (by rw [z]; exact ⟨_, h_a⟩)) hq
  have hZ := fun q (hq : w0 q = none) => hE.nn (fun _ z => (by rw [z]; exact ⟨_, h_a⟩)) hq
  have h_a := hs _ _ (fun z => z) h_a
  have hE := hE.frg hs (fun _ z => z.elim)
  have h_text : w1 q_text = some (.inr (6, [.null, .int 0])) := t1
  have hD := hD.join (Al.of hs (fun _ z => z.elim)) (DN.one hq t1) hZ
  refine vv_dup hC dX8_init_8 rfl ?_
  refine vv_callIN hC dX8_init_9 md_X6_init lk_n_X8_9 lk_i_X6_init rfl (As := []) (rest := [.ref q_text, .ref a]) (c_X6_init g w1 q_text h_text) rfl rfl (Nat.le_of_ble_eq_true rfl) ⟨Nat.le_of_ble_eq_true rfl, Nat.le_of_ble_eq_true rfl, Nat.le_of_ble_eq_true rfl, Nat.le_of_ble_eq_true rfl⟩ (fun r w9 hq => ?_)
  obtain ⟨rfl, q_bytes, dn, t1, u_bytes, hs⟩ := hq
  obtain ⟨w2, rfl⟩ : ∃ z, z = w9 := ⟨_, rfl⟩
  have nw_bytes : w1 q_bytes = none := (dn.2 q_bytes (by simp)).1
  have n0_bytes := hE.nn (fun _ z => (by rw [z]; exact ⟨_, h_a⟩)) nw_bytes
  have hZ := fun q (hq : w1 q = none) => hE.nn (fun _ z => (by rw [z]; exact ⟨_, h_a⟩)) hq
  have hD := hD.join (Al.of hs (fun _ z => (by rw [z]; exact ⟨_, t1⟩))) dn hZ
  have h_a := hs _ _ (fw_oo h_a h_text (by decide)) h_a
  have hE := hE.frg hs (fun _ z => Or.inr (by rw [z]; exact n0_text))
  have h_text : w2 q_text = some (.inr (6, cTx q_bytes 0)) := t1
  have h_bytes : w2 q_bytes = some (.inl (g.2.2.1 2, 96, .inl (fun _ => 0))) := u_bytes
  show V g X 1 w2 2 98 12 [(0, .ref a)] [.ref q_text, .ref a]
  refine vv_putF hC (hI rfl) fp_X8_10 dX8_init_12 h_a rfl rfl (Nat.le_of_ble_eq_true rfl) (fun w3 t1 hs => ?_)
  have h_text := hs _ _ (fw_oo h_text h_a (by decide)) h_text
  have h_bytes := hs _ _ (fw_ao h_bytes h_a) h_bytes
  have hE := hE.frg hs (fun _ z => Or.inl z)
  have h_a : w3 a = some (.inr (8, [.ref q_text, .null, .null, .null, .null, .null, .int 0, .null, .null, .null, .long 0])) := t1
  have hD := hD.keep (Al.of hs (fun _ z => (by rw [z]; exact ⟨_, h_a⟩)))
  refine vv_aload_n hC 0 dX8_init_15 rfl rfl ?_
  refine vv_new (ci := 7) (fs := cVi zVi) hC fpcX7 rfl lk_o_X8_16 lk_b_X7 lk_z_X7 dX8_init_16 nfsX7 (Nat.le_of_ble_eq_true rfl) (Nat.le_of_ble_eq_true rfl) (fun q_vi w4 hq t1 hs => ?_)
  have n0_vi := hE.nn (fun _ z => (by rw [z]; exact ⟨_, h_a⟩)) hq
  have hZ := fun q (hq : w3 q = none) => hE.nn (fun _ z => (by rw [z]; exact ⟨_, h_a⟩)) hq
  have h_a := hs _ _ (fun z => z) h_a
  have h_text := hs _ _ (fun z => z) h_text
  have h_bytes := hs _ _ (fun z => z) h_bytes
  have hE := hE.frg hs (fun _ z => z.elim)
  have h_vi : w4 q_vi = some (.inr (7, cVi zVi)) := t1
  have hD := hD.join (Al.of hs (fun _ z => z.elim)) (DN.one hq t1) hZ
  refine vv_dup hC dX8_init_19 rfl ?_
  refine vv_callIN hC dX8_init_20 md_X7_init lk_n_X8_18 lk_i_X7_init rfl (As := []) (rest := [.ref q_vi, .ref a]) (c_X7_init g w4 q_vi zVi h_vi) rfl rfl (Nat.le_of_ble_eq_true rfl) ⟨Nat.le_of_ble_eq_true rfl, Nat.le_of_ble_eq_true rfl, Nat.le_of_ble_eq_true rfl, Nat.le_of_ble_eq_true rfl⟩ (fun r w9 hq => ?_)
  obtain ⟨rfl, t1, hs⟩ := hq
  obtain ⟨w5, rfl⟩ : ∃ z, z = w9 := ⟨_, rfl⟩
  have h_a := hs _ _ (fw_oo h_a h_vi (by decide)) h_a
  have h_text := hs _ _ (fw_oo h_text h_vi (by decide)) h_text
  have h_bytes := hs _ _ (fw_ao h_bytes h_vi) h_bytes
  have hE := hE.frg hs (fun _ z => Or.inr (by rw [z]; exact n0_vi))
  have h_vi : w5 q_vi = some (.inr (7, cVi zVi)) := t1
  have hD := hD.keep (Al.of hs (fun _ z => (by rw [z]; exact ⟨_, h_vi⟩)))
  show V g X 1 w5 3 109 23 [(0, .ref a)] [.ref q_vi, .ref a]
  refine vv_put hC fp_X8_19 dX8_init_23 h_a rfl rfl (Nat.le_of_ble_eq_true rfl) (fun w6 t1 hs => ?_)
  have h_text := hs _ _ (fw_oo h_text h_a (by decide)) h_text
  have h_bytes := hs _ _ (fw_ao h_bytes h_a) h_bytes
  have h_vi := hs _ _ (fw_oo h_vi h_a (by decide)) h_vi
  have hE := hE.frg hs (fun _ z => Or.inl z)
  have h_a : w6 a = some (.inr (8, [.ref q_text, .ref q_vi, .null, .null, .null, .null, .int 0, .null, .null, .null, .long 0])) := t1
  have hD := hD.keep (Al.of hs (fun _ z => (by rw [z]; exact ⟨_, h_a⟩)))
  refine vv_aload_n hC 0 dX8_init_26 rfl rfl ?_
  refine vv_new (ci := 2) (fs := cN zN) hC fpcX2 rfl lk_o_X8_23 lk_b_X2 lk_z_X2 dX8_init_27 nfsX2 (Nat.le_of_ble_eq_true rfl) (Nat.le_of_ble_eq_true rfl) (fun q_now w7 hq t1 hs => ?_)
  have n0_now := hE.nn (fun _ z => (by rw [z]; exact ⟨_, h_a⟩)) hq
  have hZ := fun q (hq : w6 q = none) => hE.nn (fun _ z => (by rw [z]; exact ⟨_, h_a⟩)) hq
  have h_a := hs _ _ (fun z => z) h_a
  have h_text := hs _ _ (fun z => z) h_text
  have h_bytes := hs _ _ (fun z => z) h_bytes
  have h_vi := hs _ _ (fun z => z) h_vi
  have hE := hE.frg hs (fun _ z => z.elim)
  have h_now : w7 q_now = some (.inr (2, cN zN)) := t1
  have hD := hD.join (Al.of hs (fun _ z => z.elim)) (DN.one hq t1) hZ
  refine vv_dup hC dX8_init_30 rfl ?_
  refine vv_callIN hC dX8_init_31 md_X2_init lk_n_X8_25 lk_i_X2_init rfl (As := []) (rest := [.ref q_now, .ref a]) (c_X2_init g w7 q_now zN h_now) rfl rfl (Nat.le_of_ble_eq_true rfl) ⟨Nat.le_of_ble_eq_true rfl, Nat.le_of_ble_eq_true rfl, Nat.le_of_ble_eq_true rfl, Nat.le_of_ble_eq_true rfl⟩ (fun r w9 hq => ?_)
  obtain ⟨rfl, t1, hs⟩ := hq
  obtain ⟨w8, rfl⟩ : ∃ z, z = w9 := ⟨_, rfl⟩
  have h_a := hs _ _ (fw_oo h_a h_now (by decide)) h_a
  have h_text := hs _ _ (fw_oo h_text h_now (by decide)) h_text
  have h_bytes := hs _ _ (fw_ao h_bytes h_now) h_bytes
  have h_vi := hs _ _ (fw_oo h_vi h_now (by decide)) h_vi
  have hE := hE.frg hs (fun _ z => Or.inr (by rw [z]; exact n0_now))
  have h_now : w8 q_now = some (.inr (2, cN zN)) := t1
  have hD := hD.keep (Al.of hs (fun _ z => (by rw [z]; exact ⟨_, h_now⟩)))
  show V g X 1 w8 4 119 34 [(0, .ref a)] [.ref q_now, .ref a]
  refine vv_putF hC (hI rfl) fp_X8_26 dX8_init_34 h_a rfl rfl (Nat.le_of_ble_eq_true rfl) (fun w9 t1 hs => ?_)
  have h_text := hs _ _ (fw_oo h_text h_a (by decide)) h_text
  have h_bytes := hs _ _ (fw_ao h_bytes h_a) h_bytes
  have h_vi := hs _ _ (fw_oo h_vi h_a (by decide)) h_vi
  have h_now := hs _ _ (fw_oo h_now h_a (by decide)) h_now
  have hE := hE.frg hs (fun _ z => Or.inl z)
  have h_a : w9 a = some (.inr (8, [.ref q_text, .ref q_vi, .ref q_now, .null, .null, .null, .int 0, .null, .null, .null, .long 0])) := t1
  have hD := hD.keep (Al.of hs (fun _ z => (by rw [z]; exact ⟨_, h_a⟩)))
  refine vv_aload_n hC 0 dX8_init_37 rfl rfl ?_
  refine vv_new (ci := 2) (fs := cN zN) hC fpcX2 rfl lk_o_X8_23 lk_b_X2 lk_z_X2 dX8_init_38 nfsX2 (Nat.le_of_ble_eq_true rfl) (Nat.le_of_ble_eq_true rfl) (fun q_thought w10 hq t1 hs => ?_)
  have ne_now_thought := fr_ne h_now hq
  have n0_thought := hE.nn (fun _ z => (by rw [z]; exact ⟨_, h_a⟩)) hq
  have hZ := fun q (hq : w9 q = none) => hE.nn (fun _ z => (by rw [z]; exact ⟨_, h_a⟩)) hq
  have h_a := hs _ _ (fun z => z) h_a
  have h_text := hs _ _ (fun z => z) h_text
  have h_bytes := hs _ _ (fun z => z) h_bytes
  have h_vi := hs _ _ (fun z => z) h_vi
  have h_now := hs _ _ (fun z => z) h_now
  have hE := hE.frg hs (fun _ z => z.elim)
  have h_thought : w10 q_thought = some (.inr (2, cN zN)) := t1
  have hD := hD.join (Al.of hs (fun _ z => z.elim)) (DN.one hq t1) hZ
  refine vv_dup hC dX8_init_41 rfl ?_
  refine vv_callIN hC dX8_init_42 md_X2_init lk_n_X8_25 lk_i_X2_init rfl (As := []) (rest := [.ref q_thought, .ref a]) (c_X2_init g w10 q_thought zN h_thought) rfl rfl (Nat.le_of_ble_eq_true rfl) ⟨Nat.le_of_ble_eq_true rfl, Nat.le_of_ble_eq_true rfl, Nat.le_of_ble_eq_true rfl, Nat.le_of_ble_eq_true rfl⟩ (fun r w9 hq => ?_)
  obtain ⟨rfl, t1, hs⟩ := hq
  obtain ⟨w11, rfl⟩ : ∃ z, z = w9 := ⟨_, rfl⟩
  have h_a := hs _ _ (fw_oo h_a h_thought (by decide)) h_a
  have h_text := hs _ _ (fw_oo h_text h_thought (by decide)) h_text
  have h_bytes := hs _ _ (fw_ao h_bytes h_thought) h_bytes
  have h_vi := hs _ _ (fw_oo h_vi h_thought (by decide)) h_vi
  have h_now := hs _ _ ne_now_thought h_now
  have hE := hE.frg hs (fun _ z => Or.inr (by rw [z]; exact n0_thought))
  have h_thought : w11 q_thought = some (.inr (2, cN zN)) := t1
  have hD := hD.keep (Al.of hs (fun _ z => (by rw [z]; exact ⟨_, h_thought⟩)))
  show V g X 1 w11 5 129 45 [(0, .ref a)] [.ref q_thought, .ref a]
  refine vv_putF hC (hI rfl) fp_X8_30 dX8_init_45 h_a rfl rfl (Nat.le_of_ble_eq_true rfl) (fun w12 t1 hs => ?_)
  have h_text := hs _ _ (fw_oo h_text h_a (by decide)) h_text
  have h_bytes := hs _ _ (fw_ao h_bytes h_a) h_bytes
  have h_vi := hs _ _ (fw_oo h_vi h_a (by decide)) h_vi
  have h_now := hs _ _ (fw_oo h_now h_a (by decide)) h_now
  have h_thought := hs _ _ (fw_oo h_thought h_a (by decide)) h_thought
  have hE := hE.frg hs (fun _ z => Or.inl z)
  have h_a : w12 a = some (.inr (8, [.ref q_text, .ref q_vi, .ref q_now, .ref q_thought, .null, .null, .int 0, .null, .null, .null, .long 0])) := t1
  have hD := hD.keep (Al.of hs (fun _ z => (by rw [z]; exact ⟨_, h_a⟩)))
  refine vv_aload_n hC 0 dX8_init_48 rfl rfl ?_
  refine vv_new (ci := 0) (fs := [.null, .int 0, .int 0]) hC fpcX0 rfl lk_o_X8_33 lk_b_X0 lk_z_X0 dX8_init_49 nfsX0 (Nat.le_of_ble_eq_true rfl) (Nat.le_of_ble_eq_true rfl) (fun q_acts w13 hq t1 hs => ?_)
  have n0_acts := hE.nn (fun _ z => (by rw [z]; exact ⟨_, h_a⟩)) hq
  have hZ := fun q (hq : w12 q = none) => hE.nn (fun _ z => (by rw [z]; exact ⟨_, h_a⟩)) hq
  have h_a := hs _ _ (fun z => z) h_a
  have h_text := hs _ _ (fun z => z) h_text
  have h_bytes := hs _ _ (fun z => z) h_bytes
  have h_vi := hs _ _ (fun z => z) h_vi
  have h_now := hs _ _ (fun z => z) h_now
  have h_thought := hs _ _ (fun z => z) h_thought
  have hE := hE.frg hs (fun _ z => z.elim)
  have h_acts : w13 q_acts = some (.inr (0, [.null, .int 0, .int 0])) := t1
  have hD := hD.join (Al.of hs (fun _ z => z.elim)) (DN.one hq t1) hZ
  refine vv_dup hC dX8_init_52 rfl ?_
  refine vv_callI hC dX8_init_53 md_X0_init lk_m_X8_35 lk_i_X0_init rfl (As := []) (rest := [.ref q_acts, .ref a]) (c_X0_init g w13 q_acts h_acts) rfl rfl (Nat.le_of_ble_eq_true rfl) ⟨Nat.le_of_ble_eq_true rfl, Nat.le_of_ble_eq_true rfl, Nat.le_of_ble_eq_true rfl, Nat.le_of_ble_eq_true rfl⟩ (fun r w9 hq => ?_)
  obtain ⟨rfl, q_before, f_bf, c_bf, dn, t1, u_before, bf_at, u_bf, hs⟩ := hq
  obtain ⟨w14, rfl⟩ : ∃ z, z = w9 := ⟨_, rfl⟩
  have nw_before : w13 q_before = none := (dn.2 q_before (by simp)).1
  have ne_bytes_before := fr_ne h_bytes nw_before
  have n0_before := hE.nn (fun _ z => (by rw [z]; exact ⟨_, h_a⟩)) nw_before
  have hZ := fun q (hq : w13 q = none) => hE.nn (fun _ z => (by rw [z]; exact ⟨_, h_a⟩)) hq
  have hD := hD.join (Al.of hs (fun _ z => (by rw [z]; exact ⟨_, t1⟩))) dn hZ
  have h_a := hs _ _ (fw_oo h_a h_acts (by decide)) h_a
  have h_text := hs _ _ (fw_oo h_text h_acts (by decide)) h_text
  have h_bytes := hs _ _ (fw_ao h_bytes h_acts) h_bytes
  have h_vi := hs _ _ (fw_oo h_vi h_acts (by decide)) h_vi
  have h_now := hs _ _ (fw_oo h_now h_acts (by decide)) h_now
  have h_thought := hs _ _ (fw_oo h_thought h_acts (by decide)) h_thought
  have hE := hE.frg hs (fun _ z => Or.inr (by rw [z]; exact n0_acts))
  have h_acts : w14 q_acts = some (.inr (0, cAc q_before (0, 0))) := t1
  have h_before : w14 q_before = some (.inl (g.2.2.1 4, 16, .inr (.inr (.inr (.inr (c_bf)))))) := u_before
  have h_bf : ∀ i, i < 16 → w14 (f_bf i) = some (.inr (2, cN zN)) := u_bf
  show V g X 1 w14 23 308 56 [(0, .ref a)] [.ref q_acts, .ref a]
  refine vv_putF hC (hI rfl) fp_X8_36 dX8_init_56 h_a rfl rfl (Nat.le_of_ble_eq_true rfl) (fun w15 t1 hs => ?_)
  have h_text := hs _ _ (fw_oo h_text h_a (by decide)) h_text
  have h_bytes := hs _ _ (fw_ao h_bytes h_a) h_bytes
  have h_vi := hs _ _ (fw_oo h_vi h_a (by decide)) h_vi
  have h_now := hs _ _ (fw_oo h_now h_a (by decide)) h_now
  have h_thought := hs _ _ (fw_oo h_thought h_a (by decide)) h_thought
  have h_acts := hs _ _ (fw_oo h_acts h_a (by decide)) h_acts
  have h_before := hs _ _ (fw_ao h_before h_a) h_before
  have h_bf := fun i hi => hs _ _ (fw_oo (h_bf i hi) h_a (by decide)) (h_bf i hi)
  have hE := hE.frg hs (fun _ z => Or.inl z)
  have h_a : w15 a = some (.inr (8, [.ref q_text, .ref q_vi, .ref q_now, .ref q_thought, .ref q_acts, .null, .int 0, .null, .null, .null, .long 0])) := t1
  have hD := hD.keep (Al.of hs (fun _ z => (by rw [z]; exact ⟨_, h_a⟩)))
  refine vv_aload_n hC 0 dX8_init_59 rfl rfl ?_
  refine vv_iconst (v := 2) hC dX8_init_60 (by decide) ?_
  refine vv_newq (N := 2) hC lk_o_X8_23 dX8_init_61 (by decide) (by decide) (by decide) (Nat.le_of_ble_eq_true rfl) (Nat.le_of_ble_eq_true rfl) (fun q_slots w16 hq t1 hs => ?_)
  have ne_bytes_slots := fr_ne h_bytes hq
  have ne_before_slots := fr_ne h_before hq
  have n0_slots := hE.nn (fun _ z => (by rw [z]; exact ⟨_, h_a⟩)) hq
  have hZ := fun q (hq : w15 q = none) => hE.nn (fun _ z => (by rw [z]; exact ⟨_, h_a⟩)) hq
  have h_a := hs _ _ (fun z => z) h_a
  have h_text := hs _ _ (fun z => z) h_text
  have h_bytes := hs _ _ (fun z => z) h_bytes
  have h_vi := hs _ _ (fun z => z) h_vi
  have h_now := hs _ _ (fun z => z) h_now
  have h_thought := hs _ _ (fun z => z) h_thought
  have h_acts := hs _ _ (fun z => z) h_acts
  have h_before := hs _ _ (fun z => z) h_before
  have h_bf := fun i hi => hs _ _ (fun z => z) (h_bf i hi)
  have hE := hE.frg hs (fun _ z => z.elim)
  have h_slots : w16 q_slots = some (.inl (g.2.2.1 4, 2, .inr (.inr (.inr (.inr (fun _ => none)))))) := t1
  have hD := hD.join (Al.of hs (fun _ z => z.elim)) (DN.one hq t1) hZ
  refine vv_putF hC (hI rfl) fp_X8_40 dX8_init_64 h_a rfl rfl (Nat.le_of_ble_eq_true rfl) (fun w17 t1 hs => ?_)
  have h_text := hs _ _ (fw_oo h_text h_a (by decide)) h_text
  have h_bytes := hs _ _ (fw_ao h_bytes h_a) h_bytes
  have h_vi := hs _ _ (fw_oo h_vi h_a (by decide)) h_vi
  have h_now := hs _ _ (fw_oo h_now h_a (by decide)) h_now
  have h_thought := hs _ _ (fw_oo h_thought h_a (by decide)) h_thought
  have h_acts := hs _ _ (fw_oo h_acts h_a (by decide)) h_acts
  have h_before := hs _ _ (fw_ao h_before h_a) h_before
  have h_bf := fun i hi => hs _ _ (fw_oo (h_bf i hi) h_a (by decide)) (h_bf i hi)
  have h_slots := hs _ _ (fw_ao h_slots h_a) h_slots
  have hE := hE.frg hs (fun _ z => Or.inl z)
  have h_a : w17 a = some (.inr (8, [.ref q_text, .ref q_vi, .ref q_now, .ref q_thought, .ref q_acts, .ref q_slots, .int 0, .null, .null, .null, .long 0])) := t1
  have hD := hD.keep (Al.of hs (fun _ z => (by rw [z]; exact ⟨_, h_a⟩)))
  refine vv_aload_n hC 0 dX8_init_67 rfl rfl ?_
  refine vv_iconst (v := 0) hC dX8_init_68 (by decide) ?_
  refine vv_put hC fp_X8_44 dX8_init_69 h_a rfl rfl (Nat.le_of_ble_eq_true rfl) (fun w18 t1 hs => ?_)
  have h_text := hs _ _ (fw_oo h_text h_a (by decide)) h_text
  have h_bytes := hs _ _ (fw_ao h_bytes h_a) h_bytes
  have h_vi := hs _ _ (fw_oo h_vi h_a (by decide)) h_vi
  have h_now := hs _ _ (fw_oo h_now h_a (by decide)) h_now
  have h_thought := hs _ _ (fw_oo h_thought h_a (by decide)) h_thought
  have h_acts := hs _ _ (fw_oo h_acts h_a (by decide)) h_acts
  have h_before := hs _ _ (fw_ao h_before h_a) h_before
  have h_bf := fun i hi => hs _ _ (fw_oo (h_bf i hi) h_a (by decide)) (h_bf i hi)
  have h_slots := hs _ _ (fw_ao h_slots h_a) h_slots
  have hE := hE.frg hs (fun _ z => Or.inl z)
  have h_a : w18 a = some (.inr (8, [.ref q_text, .ref q_vi, .ref q_now, .ref q_thought, .ref q_acts, .ref q_slots, .int 0, .null, .null, .null, .long 0])) := t1
  have hD := hD.keep (Al.of hs (fun _ z => (by rw [z]; exact ⟨_, h_a⟩)))
  refine vv_aload_n hC 0 dX8_init_72 rfl rfl ?_
  refine vv_new (ci := 4) (fs := [.null, .null, .null, .null, .int 0]) hC fpcX4 rfl lk_o_X8_48 lk_b_X4 lk_z_X4 dX8_init_73 nfsX4 (Nat.le_of_ble_eq_true rfl) (Nat.le_of_ble_eq_true rfl) (fun q_sights w19 hq t1 hs => ?_)
  have n0_sights := hE.nn (fun _ z => (by rw [z]; exact ⟨_, h_a⟩)) hq
  have hZ := fun q (hq : w18 q = none) => hE.nn (fun _ z => (by rw [z]; exact ⟨_, h_a⟩)) hq
  have h_a := hs _ _ (fun z => z) h_a
  have h_text := hs _ _ (fun z => z) h_text
  have h_bytes := hs _ _ (fun z => z) h_bytes
  have h_vi := hs _ _ (fun z => z) h_vi
  have h_now := hs _ _ (fun z => z) h_now
  have h_thought := hs _ _ (fun z => z) h_thought
  have h_acts := hs _ _ (fun z => z) h_acts
  have h_before := hs _ _ (fun z => z) h_before
  have h_bf := fun i hi => hs _ _ (fun z => z) (h_bf i hi)
  have h_slots := hs _ _ (fun z => z) h_slots
  have hE := hE.frg hs (fun _ z => z.elim)
  have h_sights : w19 q_sights = some (.inr (4, [.null, .null, .null, .null, .int 0])) := t1
  have hD := hD.join (Al.of hs (fun _ z => z.elim)) (DN.one hq t1) hZ
  refine vv_dup hC dX8_init_76 rfl ?_
  refine vv_callIN hC dX8_init_77 md_X4_init lk_n_X8_50 lk_i_X4_init rfl (As := []) (rest := [.ref q_sights, .ref a]) (c_X4_init g w19 q_sights h_sights) rfl rfl (Nat.le_of_ble_eq_true rfl) ⟨Nat.le_of_ble_eq_true rfl, Nat.le_of_ble_eq_true rfl, Nat.le_of_ble_eq_true rfl, Nat.le_of_ble_eq_true rfl⟩ (fun r w9 hq => ?_)
  obtain ⟨rfl, q_kinds, q_moons, q_places, q_values, dn, t1, u_kinds, u_moons, u_places, u_values, hs⟩ := hq
  obtain ⟨w20, rfl⟩ : ∃ z, z = w9 := ⟨_, rfl⟩
  have nw_kinds : w19 q_kinds = none := (dn.2 q_kinds (by simp)).1
  have ne_bytes_kinds := fr_ne h_bytes nw_kinds
  have ne_before_kinds := fr_ne h_before nw_kinds
  have ne_slots_kinds := fr_ne h_slots nw_kinds
  have n0_kinds := hE.nn (fun _ z => (by rw [z]; exact ⟨_, h_a⟩)) nw_kinds
  have nw_moons : w19 q_moons = none := (dn.2 q_moons (by simp)).1
  have ne_bytes_moons := fr_ne h_bytes nw_moons
  have ne_before_moons := fr_ne h_before nw_moons
  have ne_slots_moons := fr_ne h_slots nw_moons
  have n0_moons := hE.nn (fun _ z => (by rw [z]; exact ⟨_, h_a⟩)) nw_moons
  have nw_places : w19 q_places = none := (dn.2 q_places (by simp)).1
  have ne_bytes_places := fr_ne h_bytes nw_places
  have ne_before_places := fr_ne h_before nw_places
  have ne_slots_places := fr_ne h_slots nw_places
  have n0_places := hE.nn (fun _ z => (by rw [z]; exact ⟨_, h_a⟩)) nw_places
  have nw_values : w19 q_values = none := (dn.2 q_values (by simp)).1
  have ne_bytes_values := fr_ne h_bytes nw_values
  have ne_before_values := fr_ne h_before nw_values
  have ne_slots_values := fr_ne h_slots nw_values
  have n0_values := hE.nn (fun _ z => (by rw [z]; exact ⟨_, h_a⟩)) nw_values
  have hZ := fun q (hq : w19 q = none) => hE.nn (fun _ z => (by rw [z]; exact ⟨_, h_a⟩)) hq
  have hD := hD.join (Al.of hs (fun _ z => (by rw [z]; exact ⟨_, t1⟩))) dn hZ
  have h_a := hs _ _ (fw_oo h_a h_sights (by decide)) h_a
  have h_text := hs _ _ (fw_oo h_text h_sights (by decide)) h_text
  have h_bytes := hs _ _ (fw_ao h_bytes h_sights) h_bytes
  have h_vi := hs _ _ (fw_oo h_vi h_sights (by decide)) h_vi
  have h_now := hs _ _ (fw_oo h_now h_sights (by decide)) h_now
  have h_thought := hs _ _ (fw_oo h_thought h_sights (by decide)) h_thought
  have h_acts := hs _ _ (fw_oo h_acts h_sights (by decide)) h_acts
  have h_before := hs _ _ (fw_ao h_before h_sights) h_before
  have h_bf := fun i hi => hs _ _ (fw_oo (h_bf i hi) h_sights (by decide)) (h_bf i hi)
  have h_slots := hs _ _ (fw_ao h_slots h_sights) h_slots
  have hE := hE.frg hs (fun _ z => Or.inr (by rw [z]; exact n0_sights))
  have h_sights : w20 q_sights = some (.inr (4, cSi q_kinds q_moons q_places q_values 0)) := t1
  have h_kinds : w20 q_kinds = some (.inl (g.2.2.1 0, 6, .inl (fun _ => 0))) := u_kinds
  have h_moons : w20 q_moons = some (.inl (g.2.2.1 0, 6, .inl (fun _ => 0))) := u_moons
  have h_places : w20 q_places = some (.inl (g.2.2.1 0, 6, .inl (fun _ => 0))) := u_places
  have h_values : w20 q_values = some (.inl (g.2.2.1 0, 6, .inl (fun _ => 0))) := u_values
  show V g X 1 w20 29 339 80 [(0, .ref a)] [.ref q_sights, .ref a]
  refine vv_putF hC (hI rfl) fp_X8_51 dX8_init_80 h_a rfl rfl (Nat.le_of_ble_eq_true rfl) (fun w21 t1 hs => ?_)
  have h_text := hs _ _ (fw_oo h_text h_a (by decide)) h_text
  have h_bytes := hs _ _ (fw_ao h_bytes h_a) h_bytes
  have h_vi := hs _ _ (fw_oo h_vi h_a (by decide)) h_vi
  have h_now := hs _ _ (fw_oo h_now h_a (by decide)) h_now
  have h_thought := hs _ _ (fw_oo h_thought h_a (by decide)) h_thought
  have h_acts := hs _ _ (fw_oo h_acts h_a (by decide)) h_acts
  have h_before := hs _ _ (fw_ao h_before h_a) h_before
  have h_bf := fun i hi => hs _ _ (fw_oo (h_bf i hi) h_a (by decide)) (h_bf i hi)
  have h_slots := hs _ _ (fw_ao h_slots h_a) h_slots
  have h_sights := hs _ _ (fw_oo h_sights h_a (by decide)) h_sights
  have h_kinds := hs _ _ (fw_ao h_kinds h_a) h_kinds
  have h_moons := hs _ _ (fw_ao h_moons h_a) h_moons
  have h_places := hs _ _ (fw_ao h_places h_a) h_places
  have h_values := hs _ _ (fw_ao h_values h_a) h_values
  have hE := hE.frg hs (fun _ z => Or.inl z)
  have h_a : w21 a = some (.inr (8, [.ref q_text, .ref q_vi, .ref q_now, .ref q_thought, .ref q_acts, .ref q_slots, .int 0, .ref q_sights, .null, .null, .long 0])) := t1
  have hD := hD.keep (Al.of hs (fun _ z => (by rw [z]; exact ⟨_, h_a⟩)))
  refine vv_aload_n hC 0 dX8_init_83 rfl rfl ?_
  refine vv_new (ci := 5) (fs := [.null, .null, .null, .int 0, .int 0, .long 0, .long 0]) hC fpcX5 rfl lk_o_X8_55 lk_b_X5 lk_z_X5 dX8_init_84 nfsX5 (Nat.le_of_ble_eq_true rfl) (Nat.le_of_ble_eq_true rfl) (fun q_tales w22 hq t1 hs => ?_)
  have n0_tales := hE.nn (fun _ z => (by rw [z]; exact ⟨_, h_a⟩)) hq
  have hZ := fun q (hq : w21 q = none) => hE.nn (fun _ z => (by rw [z]; exact ⟨_, h_a⟩)) hq
  have h_a := hs _ _ (fun z => z) h_a
  have h_text := hs _ _ (fun z => z) h_text
  have h_bytes := hs _ _ (fun z => z) h_bytes
  have h_vi := hs _ _ (fun z => z) h_vi
  have h_now := hs _ _ (fun z => z) h_now
  have h_thought := hs _ _ (fun z => z) h_thought
  have h_acts := hs _ _ (fun z => z) h_acts
  have h_before := hs _ _ (fun z => z) h_before
  have h_bf := fun i hi => hs _ _ (fun z => z) (h_bf i hi)
  have h_slots := hs _ _ (fun z => z) h_slots
  have h_sights := hs _ _ (fun z => z) h_sights
  have h_kinds := hs _ _ (fun z => z) h_kinds
  have h_moons := hs _ _ (fun z => z) h_moons
  have h_places := hs _ _ (fun z => z) h_places
  have h_values := hs _ _ (fun z => z) h_values
  have hE := hE.frg hs (fun _ z => z.elim)
  have h_tales : w22 q_tales = some (.inr (5, [.null, .null, .null, .int 0, .int 0, .long 0, .long 0])) := t1
  have hD := hD.join (Al.of hs (fun _ z => z.elim)) (DN.one hq t1) hZ
  refine vv_dup hC dX8_init_87 rfl ?_
  refine vv_callIN hC dX8_init_88 md_X5_init lk_n_X8_57 lk_i_X5_init rfl (As := []) (rest := [.ref q_tales, .ref a]) (c_X5_init g w22 q_tales h_tales) rfl rfl (Nat.le_of_ble_eq_true rfl) ⟨Nat.le_of_ble_eq_true rfl, Nat.le_of_ble_eq_true rfl, Nat.le_of_ble_eq_true rfl, Nat.le_of_ble_eq_true rfl⟩ (fun r w9 hq => ?_)
  obtain ⟨rfl, q_fits, q_left, q_needs, dn, t1, u_fits, u_left, u_needs, hs⟩ := hq
  obtain ⟨w23, rfl⟩ : ∃ z, z = w9 := ⟨_, rfl⟩
  have nw_fits : w22 q_fits = none := (dn.2 q_fits (by simp)).1
  have ne_bytes_fits := fr_ne h_bytes nw_fits
  have ne_before_fits := fr_ne h_before nw_fits
  have ne_slots_fits := fr_ne h_slots nw_fits
  have ne_kinds_fits := fr_ne h_kinds nw_fits
  have ne_moons_fits := fr_ne h_moons nw_fits
  have ne_places_fits := fr_ne h_places nw_fits
  have ne_values_fits := fr_ne h_values nw_fits
  have n0_fits := hE.nn (fun _ z => (by rw [z]; exact ⟨_, h_a⟩)) nw_fits
  have nw_left : w22 q_left = none := (dn.2 q_left (by simp)).1
  have ne_bytes_left := fr_ne h_bytes nw_left
  have ne_before_left := fr_ne h_before nw_left
  have ne_slots_left := fr_ne h_slots nw_left
  have ne_kinds_left := fr_ne h_kinds nw_left
  have ne_moons_left := fr_ne h_moons nw_left
  have ne_places_left := fr_ne h_places nw_left
  have ne_values_left := fr_ne h_values nw_left
  have n0_left := hE.nn (fun _ z => (by rw [z]; exact ⟨_, h_a⟩)) nw_left
  have nw_needs : w22 q_needs = none := (dn.2 q_needs (by simp)).1
  have ne_bytes_needs := fr_ne h_bytes nw_needs
  have ne_before_needs := fr_ne h_before nw_needs
  have ne_slots_needs := fr_ne h_slots nw_needs
  have ne_kinds_needs := fr_ne h_kinds nw_needs
  have ne_moons_needs := fr_ne h_moons nw_needs
  have ne_places_needs := fr_ne h_places nw_needs
  have ne_values_needs := fr_ne h_values nw_needs
  have n0_needs := hE.nn (fun _ z => (by rw [z]; exact ⟨_, h_a⟩)) nw_needs
  have hZ := fun q (hq : w22 q = none) => hE.nn (fun _ z => (by rw [z]; exact ⟨_, h_a⟩)) hq
  have hD := hD.join (Al.of hs (fun _ z => (by rw [z]; exact ⟨_, t1⟩))) dn hZ
  have h_a := hs _ _ (fw_oo h_a h_tales (by decide)) h_a
  have h_text := hs _ _ (fw_oo h_text h_tales (by decide)) h_text
  have h_bytes := hs _ _ (fw_ao h_bytes h_tales) h_bytes
  have h_vi := hs _ _ (fw_oo h_vi h_tales (by decide)) h_vi
  have h_now := hs _ _ (fw_oo h_now h_tales (by decide)) h_now
  have h_thought := hs _ _ (fw_oo h_thought h_tales (by decide)) h_thought
  have h_acts := hs _ _ (fw_oo h_acts h_tales (by decide)) h_acts
  have h_before := hs _ _ (fw_ao h_before h_tales) h_before
  have h_bf := fun i hi => hs _ _ (fw_oo (h_bf i hi) h_tales (by decide)) (h_bf i hi)
  have h_slots := hs _ _ (fw_ao h_slots h_tales) h_slots
  have h_sights := hs _ _ (fw_oo h_sights h_tales (by decide)) h_sights
  have h_kinds := hs _ _ (fw_ao h_kinds h_tales) h_kinds
  have h_moons := hs _ _ (fw_ao h_moons h_tales) h_moons
  have h_places := hs _ _ (fw_ao h_places h_tales) h_places
  have h_values := hs _ _ (fw_ao h_values h_tales) h_values
  have hE := hE.frg hs (fun _ z => Or.inr (by rw [z]; exact n0_tales))
  have h_tales : w23 q_tales = some (.inr (5, cTa q_fits q_left q_needs (0, 0, 0, 0))) := t1
  have h_fits : w23 q_fits = some (.inl (g.2.2.1 1, 64, .inr (.inl (fun _ => 0)))) := u_fits
  have h_left : w23 q_left = some (.inl (g.2.2.1 0, 729, .inl (fun _ => 0))) := u_left
  have h_needs : w23 q_needs = some (.inl (g.2.2.1 0, 729, .inl (fun _ => 0))) := u_needs
  show V g X 1 w23 33 1868 91 [(0, .ref a)] [.ref q_tales, .ref a]
  refine vv_putF hC (hI rfl) fp_X8_58 dX8_init_91 h_a rfl rfl (Nat.le_of_ble_eq_true rfl) (fun w24 t1 hs => ?_)
  have h_text := hs _ _ (fw_oo h_text h_a (by decide)) h_text
  have h_bytes := hs _ _ (fw_ao h_bytes h_a) h_bytes
  have h_vi := hs _ _ (fw_oo h_vi h_a (by decide)) h_vi
  have h_now := hs _ _ (fw_oo h_now h_a (by decide)) h_now
  have h_thought := hs _ _ (fw_oo h_thought h_a (by decide)) h_thought
  have h_acts := hs _ _ (fw_oo h_acts h_a (by decide)) h_acts
  have h_before := hs _ _ (fw_ao h_before h_a) h_before
  have h_bf := fun i hi => hs _ _ (fw_oo (h_bf i hi) h_a (by decide)) (h_bf i hi)
  have h_slots := hs _ _ (fw_ao h_slots h_a) h_slots
  have h_sights := hs _ _ (fw_oo h_sights h_a (by decide)) h_sights
  have h_kinds := hs _ _ (fw_ao h_kinds h_a) h_kinds
  have h_moons := hs _ _ (fw_ao h_moons h_a) h_moons
  have h_places := hs _ _ (fw_ao h_places h_a) h_places
  have h_values := hs _ _ (fw_ao h_values h_a) h_values
  have h_tales := hs _ _ (fw_oo h_tales h_a (by decide)) h_tales
  have h_fits := hs _ _ (fw_ao h_fits h_a) h_fits
  have h_left := hs _ _ (fw_ao h_left h_a) h_left
  have h_needs := hs _ _ (fw_ao h_needs h_a) h_needs
  have hE := hE.frg hs (fun _ z => Or.inl z)
  have h_a : w24 a = some (.inr (8, [.ref q_text, .ref q_vi, .ref q_now, .ref q_thought, .ref q_acts, .ref q_slots, .int 0, .ref q_sights, .ref q_tales, .null, .long 0])) := t1
  have hD := hD.keep (Al.of hs (fun _ z => (by rw [z]; exact ⟨_, h_a⟩)))
  refine vv_aload_n hC 0 dX8_init_94 rfl rfl ?_
  refine vv_new (ci := 1) (fs := [.null, .null]) hC fpcX1 rfl lk_o_X8_62 lk_b_X1 lk_z_X1 dX8_init_95 nfsX1 (Nat.le_of_ble_eq_true rfl) (Nat.le_of_ble_eq_true rfl) (fun q_chances w25 hq t1 hs => ?_)
  have n0_chances := hE.nn (fun _ z => (by rw [z]; exact ⟨_, h_a⟩)) hq
  have hZ := fun q (hq : w24 q = none) => hE.nn (fun _ z => (by rw [z]; exact ⟨_, h_a⟩)) hq
  have h_a := hs _ _ (fun z => z) h_a
  have h_text := hs _ _ (fun z => z) h_text
  have h_bytes := hs _ _ (fun z => z) h_bytes
  have h_vi := hs _ _ (fun z => z) h_vi
  have h_now := hs _ _ (fun z => z) h_now
  have h_thought := hs _ _ (fun z => z) h_thought
  have h_acts := hs _ _ (fun z => z) h_acts
  have h_before := hs _ _ (fun z => z) h_before
  have h_bf := fun i hi => hs _ _ (fun z => z) (h_bf i hi)
  have h_slots := hs _ _ (fun z => z) h_slots
  have h_sights := hs _ _ (fun z => z) h_sights
  have h_kinds := hs _ _ (fun z => z) h_kinds
  have h_moons := hs _ _ (fun z => z) h_moons
  have h_places := hs _ _ (fun z => z) h_places
  have h_values := hs _ _ (fun z => z) h_values
  have h_tales := hs _ _ (fun z => z) h_tales
  have h_fits := hs _ _ (fun z => z) h_fits
  have h_left := hs _ _ (fun z => z) h_left
  have h_needs := hs _ _ (fun z => z) h_needs
  have hE := hE.frg hs (fun _ z => z.elim)
  have h_chances : w25 q_chances = some (.inr (1, [.null, .null])) := t1
  have hD := hD.join (Al.of hs (fun _ z => z.elim)) (DN.one hq t1) hZ
  refine vv_dup hC dX8_init_98 rfl ?_
  refine vv_callI hC dX8_init_99 md_X1_init lk_m_X8_64 lk_i_X1_init rfl (As := []) (rest := [.ref q_chances, .ref a]) (c_X1_init g w25 q_chances h_chances) rfl rfl (Nat.le_of_ble_eq_true rfl) ⟨Nat.le_of_ble_eq_true rfl, Nat.le_of_ble_eq_true rfl, Nat.le_of_ble_eq_true rfl, Nat.le_of_ble_eq_true rfl⟩ (fun r w9 hq => ?_)
  obtain ⟨rfl, q_steps, q_cv, f_sf, c_sf, dn, t1, u_steps, sf_at, u_sf, hs⟩ := hq
  obtain ⟨w26, rfl⟩ : ∃ z, z = w9 := ⟨_, rfl⟩
  have nw_steps : w25 q_steps = none := (dn.2 q_steps (by simp)).1
  have ne_bytes_steps := fr_ne h_bytes nw_steps
  have ne_before_steps := fr_ne h_before nw_steps
  have ne_slots_steps := fr_ne h_slots nw_steps
  have ne_kinds_steps := fr_ne h_kinds nw_steps
  have ne_moons_steps := fr_ne h_moons nw_steps
  have ne_places_steps := fr_ne h_places nw_steps
  have ne_values_steps := fr_ne h_values nw_steps
  have ne_fits_steps := fr_ne h_fits nw_steps
  have ne_left_steps := fr_ne h_left nw_steps
  have ne_needs_steps := fr_ne h_needs nw_steps
  have n0_steps := hE.nn (fun _ z => (by rw [z]; exact ⟨_, h_a⟩)) nw_steps
  have hZ := fun q (hq : w25 q = none) => hE.nn (fun _ z => (by rw [z]; exact ⟨_, h_a⟩)) hq
  have hD := hD.join (Al.of hs (fun _ z => (by rw [z]; exact ⟨_, t1⟩))) dn hZ
  have h_a := hs _ _ (fw_oo h_a h_chances (by decide)) h_a
  have h_text := hs _ _ (fw_oo h_text h_chances (by decide)) h_text
  have h_bytes := hs _ _ (fw_ao h_bytes h_chances) h_bytes
  have h_vi := hs _ _ (fw_oo h_vi h_chances (by decide)) h_vi
  have h_now := hs _ _ (fw_oo h_now h_chances (by decide)) h_now
  have h_thought := hs _ _ (fw_oo h_thought h_chances (by decide)) h_thought
  have h_acts := hs _ _ (fw_oo h_acts h_chances (by decide)) h_acts
  have h_before := hs _ _ (fw_ao h_before h_chances) h_before
  have h_bf := fun i hi => hs _ _ (fw_oo (h_bf i hi) h_chances (by decide)) (h_bf i hi)
  have h_slots := hs _ _ (fw_ao h_slots h_chances) h_slots
  have h_sights := hs _ _ (fw_oo h_sights h_chances (by decide)) h_sights
  have h_kinds := hs _ _ (fw_ao h_kinds h_chances) h_kinds
  have h_moons := hs _ _ (fw_ao h_moons h_chances) h_moons
  have h_places := hs _ _ (fw_ao h_places h_chances) h_places
  have h_values := hs _ _ (fw_ao h_values h_chances) h_values
  have h_tales := hs _ _ (fw_oo h_tales h_chances (by decide)) h_tales
  have h_fits := hs _ _ (fw_ao h_fits h_chances) h_fits
  have h_left := hs _ _ (fw_ao h_left h_chances) h_left
  have h_needs := hs _ _ (fw_ao h_needs h_chances) h_needs
  have hE := hE.frg hs (fun _ z => Or.inr (by rw [z]; exact n0_chances))
  have h_chances : w26 q_chances = some (.inr (1, cCh q_steps q_cv)) := t1
  have h_steps : w26 q_steps = some (.inl (g.2.2.1 4, 16, .inr (.inr (.inr (.inr (c_sf)))))) := u_steps
  have h_sf : ∀ i, i < 16 → w26 (f_sf i) = some (.inr (2, cN zN)) := u_sf
  show V g X 1 w26 52 2057 102 [(0, .ref a)] [.ref q_chances, .ref a]
  refine vv_putF hC (hI rfl) fp_X8_65 dX8_init_102 h_a rfl rfl (Nat.le_of_ble_eq_true rfl) (fun w27 t1 hs => ?_)
  have h_text := hs _ _ (fw_oo h_text h_a (by decide)) h_text
  have h_bytes := hs _ _ (fw_ao h_bytes h_a) h_bytes
  have h_vi := hs _ _ (fw_oo h_vi h_a (by decide)) h_vi
  have h_now := hs _ _ (fw_oo h_now h_a (by decide)) h_now
  have h_thought := hs _ _ (fw_oo h_thought h_a (by decide)) h_thought
  have h_acts := hs _ _ (fw_oo h_acts h_a (by decide)) h_acts
  have h_before := hs _ _ (fw_ao h_before h_a) h_before
  have h_bf := fun i hi => hs _ _ (fw_oo (h_bf i hi) h_a (by decide)) (h_bf i hi)
  have h_slots := hs _ _ (fw_ao h_slots h_a) h_slots
  have h_sights := hs _ _ (fw_oo h_sights h_a (by decide)) h_sights
  have h_kinds := hs _ _ (fw_ao h_kinds h_a) h_kinds
  have h_moons := hs _ _ (fw_ao h_moons h_a) h_moons
  have h_places := hs _ _ (fw_ao h_places h_a) h_places
  have h_values := hs _ _ (fw_ao h_values h_a) h_values
  have h_tales := hs _ _ (fw_oo h_tales h_a (by decide)) h_tales
  have h_fits := hs _ _ (fw_ao h_fits h_a) h_fits
  have h_left := hs _ _ (fw_ao h_left h_a) h_left
  have h_needs := hs _ _ (fw_ao h_needs h_a) h_needs
  have h_chances := hs _ _ (fw_oo h_chances h_a (by decide)) h_chances
  have h_steps := hs _ _ (fw_ao h_steps h_a) h_steps
  have h_sf := fun i hi => hs _ _ (fw_oo (h_sf i hi) h_a (by decide)) (h_sf i hi)
  have hE := hE.frg hs (fun _ z => Or.inl z)
  have h_a : w27 a = some (.inr (8, [.ref q_text, .ref q_vi, .ref q_now, .ref q_thought, .ref q_acts, .ref q_slots, .int 0, .ref q_sights, .ref q_tales, .ref q_chances, .long 0])) := t1
  have hD := hD.keep (Al.of hs (fun _ z => (by rw [z]; exact ⟨_, h_a⟩)))
  refine vv_aload_n hC 0 dX8_init_105 rfl rfl ?_
  refine vv_lconst (v := 0) hC dX8_init_106 (by decide) ?_
  refine vv_put hC fp_X8_69 dX8_init_107 h_a rfl rfl (Nat.le_of_ble_eq_true rfl) (fun w28 t1 hs => ?_)
  have h_text := hs _ _ (fw_oo h_text h_a (by decide)) h_text
  have h_bytes := hs _ _ (fw_ao h_bytes h_a) h_bytes
  have h_vi := hs _ _ (fw_oo h_vi h_a (by decide)) h_vi
  have h_now := hs _ _ (fw_oo h_now h_a (by decide)) h_now
  have h_thought := hs _ _ (fw_oo h_thought h_a (by decide)) h_thought
  have h_acts := hs _ _ (fw_oo h_acts h_a (by decide)) h_acts
  have h_before := hs _ _ (fw_ao h_before h_a) h_before
  have h_bf := fun i hi => hs _ _ (fw_oo (h_bf i hi) h_a (by decide)) (h_bf i hi)
  have h_slots := hs _ _ (fw_ao h_slots h_a) h_slots
  have h_sights := hs _ _ (fw_oo h_sights h_a (by decide)) h_sights
  have h_kinds := hs _ _ (fw_ao h_kinds h_a) h_kinds
  have h_moons := hs _ _ (fw_ao h_moons h_a) h_moons
  have h_places := hs _ _ (fw_ao h_places h_a) h_places
  have h_values := hs _ _ (fw_ao h_values h_a) h_values
  have h_tales := hs _ _ (fw_oo h_tales h_a (by decide)) h_tales
  have h_fits := hs _ _ (fw_ao h_fits h_a) h_fits
  have h_left := hs _ _ (fw_ao h_left h_a) h_left
  have h_needs := hs _ _ (fw_ao h_needs h_a) h_needs
  have h_chances := hs _ _ (fw_oo h_chances h_a (by decide)) h_chances
  have h_steps := hs _ _ (fw_ao h_steps h_a) h_steps
  have h_sf := fun i hi => hs _ _ (fw_oo (h_sf i hi) h_a (by decide)) (h_sf i hi)
  have hE := hE.frg hs (fun _ z => Or.inl z)
  have h_a : w28 a = some (.inr (8, [.ref q_text, .ref q_vi, .ref q_now, .ref q_thought, .ref q_acts, .ref q_slots, .int 0, .ref q_sights, .ref q_tales, .ref q_chances, .long 0])) := t1
  have hD := hD.keep (Al.of hs (fun _ z => (by rw [z]; exact ⟨_, h_a⟩)))
  refine vv_aload_n hC 0 dX8_init_110 rfl rfl ?_
  refine vv_get (v := .ref q_slots) hC fl_X8_40 dX8_init_111 h_a rfl ?_
  refine vv_callS hC dX8_init_114 md_X8_fillNights lk_m_X8_73 lk_t_X8_fillNights (As := [.ref q_slots]) (rest := []) (c_X8_fillNights g w28 q_slots 2 (by decide) (fun _ => none) h_slots) rfl rfl (Nat.le_of_ble_eq_true rfl) ⟨Nat.le_of_ble_eq_true rfl, Nat.le_of_ble_eq_true rfl, Nat.le_of_ble_eq_true rfl, Nat.le_of_ble_eq_true rfl⟩ (fun r w9 hq => ?_)
  obtain ⟨rfl, f_lf, c_lf, dn, t1, lf_at, t2, hs⟩ := hq
  obtain ⟨w29, rfl⟩ : ∃ z, z = w9 := ⟨_, rfl⟩
  have hZ := fun q (hq : w28 q = none) => hE.nn (fun _ z => (by rw [z]; exact ⟨_, h_a⟩)) hq
  have hD := hD.join (Al.of hs (fun _ z => (by rw [z]; exact ⟨_, t1⟩))) dn hZ
  have h_a := hs _ _ (fw_oa h_a h_slots) h_a
  have h_text := hs _ _ (fw_oa h_text h_slots) h_text
  have h_bytes := hs _ _ ne_bytes_slots h_bytes
  have h_vi := hs _ _ (fw_oa h_vi h_slots) h_vi
  have h_now := hs _ _ (fw_oa h_now h_slots) h_now
  have h_thought := hs _ _ (fw_oa h_thought h_slots) h_thought
  have h_acts := hs _ _ (fw_oa h_acts h_slots) h_acts
  have h_before := hs _ _ ne_before_slots h_before
  have h_bf := fun i hi => hs _ _ (fw_oa (h_bf i hi) h_slots) (h_bf i hi)
  have h_sights := hs _ _ (fw_oa h_sights h_slots) h_sights
  have h_kinds := hs _ _ (fun e => ne_slots_kinds e.symm) h_kinds
  have h_moons := hs _ _ (fun e => ne_slots_moons e.symm) h_moons
  have h_places := hs _ _ (fun e => ne_slots_places e.symm) h_places
  have h_values := hs _ _ (fun e => ne_slots_values e.symm) h_values
  have h_tales := hs _ _ (fw_oa h_tales h_slots) h_tales
  have h_fits := hs _ _ (fun e => ne_slots_fits e.symm) h_fits
  have h_left := hs _ _ (fun e => ne_slots_left e.symm) h_left
  have h_needs := hs _ _ (fun e => ne_slots_needs e.symm) h_needs
  have h_chances := hs _ _ (fw_oa h_chances h_slots) h_chances
  have h_steps := hs _ _ (fun e => ne_slots_steps e.symm) h_steps
  have h_sf := fun i hi => hs _ _ (fw_oa (h_sf i hi) h_slots) (h_sf i hi)
  have hE := hE.frg hs (fun _ z => Or.inr (by rw [z]; exact n0_slots))
  have h_slots : w29 q_slots = some (.inl (g.2.2.1 4, 2, .inr (.inr (.inr (.inr (c_lf)))))) := t1
  have h_lf : ∀ i, i < 2 → w29 (f_lf i) = some (.inr (2, cN zN)) := t2
  show V g X 1 w29 54 2077 117 [(0, .ref a)] []
  refine vv_vret hC hR rfl dX8_init_117 (Nat.le_of_ble_eq_true rfl) (Nat.le_of_ble_eq_true rfl) ?_
  refine ⟨rfl, fun i => lad (((List.range' 0 2).map f_lf ++ (((List.range' 0 16).map f_sf ++ [q_cv, q_steps]) ++ ([q_chances] ++ ([q_needs, q_left, q_fits] ++ ([q_tales] ++ ([q_values, q_places, q_moons, q_kinds] ++ ([q_sights] ++ ([q_slots] ++ (((List.range' 0 16).map f_bf ++ [q_before]) ++ ([q_acts] ++ ([q_thought] ++ ([q_now] ++ ([q_vi] ++ ([q_bytes] ++ ([q_text] ++ []))))))))))))))) ++ [a]) (sgA i), q_vi, q_cv, c_bf, c_lf, c_sf, fun i j hi hj z => sgA_inj i j hi hj (lad_inj ?_ z), rfl, ?_, ?_, hE⟩
  · exact List.nodup_append.mpr ⟨hD.1, (by simp), fun x hx y hy z => by rw [List.mem_singleton.mp hy] at z; subst z; have := (hD.2 _ hx).1; rw [h_a0] at this; cases this⟩
  · refine ⟨h_a, h_text, h_bytes, h_vi, h_now, h_thought, h_acts, h_before, ?_, ?_, h_slots, ?_, ?_, h_sights, h_kinds, h_moons, h_places, h_values, h_tales, h_fits, h_left, h_needs, h_chances, h_steps, ?_, ?_⟩
    · intro i hi
      match i, hi with
      | 0, _ => exact bf_at 0 (by omega)
      | 1, _ => exact bf_at 1 (by omega)
      | 2, _ => exact bf_at 2 (by omega)
      | 3, _ => exact bf_at 3 (by omega)
      | 4, _ => exact bf_at 4 (by omega)
      | 5, _ => exact bf_at 5 (by omega)
      | 6, _ => exact bf_at 6 (by omega)
      | 7, _ => exact bf_at 7 (by omega)
      | 8, _ => exact bf_at 8 (by omega)
      | 9, _ => exact bf_at 9 (by omega)
      | 10, _ => exact bf_at 10 (by omega)
      | 11, _ => exact bf_at 11 (by omega)
      | 12, _ => exact bf_at 12 (by omega)
      | 13, _ => exact bf_at 13 (by omega)
      | 14, _ => exact bf_at 14 (by omega)
      | 15, _ => exact bf_at 15 (by omega)
      | k + 16, hk => exact absurd hk (by omega)
    · intro i hi
      match i, hi with
      | 0, _ => exact h_bf 0 (by omega)
      | 1, _ => exact h_bf 1 (by omega)
      | 2, _ => exact h_bf 2 (by omega)
      | 3, _ => exact h_bf 3 (by omega)
      | 4, _ => exact h_bf 4 (by omega)
      | 5, _ => exact h_bf 5 (by omega)
      | 6, _ => exact h_bf 6 (by omega)
      | 7, _ => exact h_bf 7 (by omega)
      | 8, _ => exact h_bf 8 (by omega)
      | 9, _ => exact h_bf 9 (by omega)
      | 10, _ => exact h_bf 10 (by omega)
      | 11, _ => exact h_bf 11 (by omega)
      | 12, _ => exact h_bf 12 (by omega)
      | 13, _ => exact h_bf 13 (by omega)
      | 14, _ => exact h_bf 14 (by omega)
      | 15, _ => exact h_bf 15 (by omega)
      | k + 16, hk => exact absurd hk (by omega)
    · intro i hi
      match i, hi with
      | 0, _ => exact lf_at 0 (by omega)
      | 1, _ => exact lf_at 1 (by omega)
      | k + 2, hk => exact absurd hk (by omega)
    · intro i hi
      match i, hi with
      | 0, _ => exact h_lf 0 (by omega)
      | 1, _ => exact h_lf 1 (by omega)
      | k + 2, hk => exact absurd hk (by omega)
    · intro i hi
      match i, hi with
      | 0, _ => exact sf_at 0 (by omega)
      | 1, _ => exact sf_at 1 (by omega)
      | 2, _ => exact sf_at 2 (by omega)
      | 3, _ => exact sf_at 3 (by omega)
      | 4, _ => exact sf_at 4 (by omega)
      | 5, _ => exact sf_at 5 (by omega)
      | 6, _ => exact sf_at 6 (by omega)
      | 7, _ => exact sf_at 7 (by omega)
      | 8, _ => exact sf_at 8 (by omega)
      | 9, _ => exact sf_at 9 (by omega)
      | 10, _ => exact sf_at 10 (by omega)
      | 11, _ => exact sf_at 11 (by omega)
      | 12, _ => exact sf_at 12 (by omega)
      | 13, _ => exact sf_at 13 (by omega)
      | 14, _ => exact sf_at 14 (by omega)
      | 15, _ => exact sf_at 15 (by omega)
      | k + 16, hk => exact absurd hk (by omega)
    · intro i hi
      match i, hi with
      | 0, _ => exact ⟨_, h_sf 0 (by omega)⟩
      | 1, _ => exact ⟨_, h_sf 1 (by omega)⟩
      | 2, _ => exact ⟨_, h_sf 2 (by omega)⟩
      | 3, _ => exact ⟨_, h_sf 3 (by omega)⟩
      | 4, _ => exact ⟨_, h_sf 4 (by omega)⟩
      | 5, _ => exact ⟨_, h_sf 5 (by omega)⟩
      | 6, _ => exact ⟨_, h_sf 6 (by omega)⟩
      | 7, _ => exact ⟨_, h_sf 7 (by omega)⟩
      | 8, _ => exact ⟨_, h_sf 8 (by omega)⟩
      | 9, _ => exact ⟨_, h_sf 9 (by omega)⟩
      | 10, _ => exact ⟨_, h_sf 10 (by omega)⟩
      | 11, _ => exact ⟨_, h_sf 11 (by omega)⟩
      | 12, _ => exact ⟨_, h_sf 12 (by omega)⟩
      | 13, _ => exact ⟨_, h_sf 13 (by omega)⟩
      | 14, _ => exact ⟨_, h_sf 14 (by omega)⟩
      | 15, _ => exact ⟨_, h_sf 15 (by omega)⟩
      | k + 16, hk => exact absurd hk (by omega)
  · intro i hi h0
    have hm : sgA i < 54 := sgA_u i hi h0
    exact lad_none hD (Nat.lt_of_lt_of_eq hm (by simp))
/-- all that the reference keeps -/
def WM (g : GT) (B : Nat → Nat) (x : TM) (path : Nat → Int32) (home : Nat → Int32) (kin : Nat → Int32) (now : Nat → Int32) (was : Nat → Int32) (kept : Nat → Int32) (isKept : Nat → Int32) (text : Nat → Int32) (readPath : Nat → Int32) (readHome : Nat → Int32) (readKin : Nat → Int32) (read : Nat → Int32) (sight : Nat → Int32) (went : Nat → Int32) (tales : Nat → Int64) (tests : Nat → Int32) (votes : Nat → Int32) (begun : Nat → Int32) (between : Nat → Int32) (w : Wd) : Prop := w (B 0) = some (.inr (9, cM B x)) ∧ w (B 4) = some (.inl (g.2.2.1 0, 16, .inl (path))) ∧ w (B 5) = some (.inl (g.2.2.1 0, 6, .inl (home))) ∧ w (B 6) = some (.inl (g.2.2.1 0, 6, .inl (kin))) ∧ w (B 7) = some (.inl (g.2.2.1 0, 43, .inl (now))) ∧ w (B 8) = some (.inl (g.2.2.1 0, 688, .inl (was))) ∧ w (B 10) = some (.inl (g.2.2.1 0, 86, .inl (kept))) ∧ w (B 11) = some (.inl (g.2.2.1 3, 2, .inl (isKept))) ∧ w (B 12) = some (.inl (g.2.2.1 0, 96, .inl (text))) ∧ w (B 18) = some (.inl (g.2.2.1 0, 16, .inl (readPath))) ∧ w (B 19) = some (.inl (g.2.2.1 0, 6, .inl (readHome))) ∧ w (B 20) = some (.inl (g.2.2.1 0, 6, .inl (readKin))) ∧ w (B 21) = some (.inl (g.2.2.1 0, 43, .inl (read))) ∧ w (B 22) = some (.inl (g.2.2.1 0, 24, .inl (sight))) ∧ w (B 24) = some (.inl (g.2.2.1 0, 6, .inl (went))) ∧ w (B 25) = some (.inl (g.2.2.1 1, 64, .inr (.inl (tales)))) ∧ w (B 26) = some (.inl (g.2.2.1 0, 729, .inl (tests))) ∧ w (B 27) = some (.inl (g.2.2.1 0, 6, .inl (votes))) ∧ w (B 28) = some (.inl (g.2.2.1 0, 43, .inl (begun))) ∧ w (B 29) = some (.inl (g.2.2.1 0, 43, .inl (between)))
def uB (i : Nat) : Prop := i = 0 ∨ i = 4 ∨ i = 5 ∨ i = 6 ∨ i = 7 ∨ i = 8 ∨ i = 10 ∨ i = 11 ∨ i = 12 ∨ i = 18 ∨ i = 19 ∨ i = 20 ∨ i = 21 ∨ i = 22 ∨ i = 24 ∨ i = 25 ∨ i = 26 ∨ i = 27 ∨ i = 28 ∨ i = 29
def sgB (i : Nat) : Nat := [19, 20, 21, 22, 18, 17, 16, 15, 14, 23, 13, 12, 11, 24, 25, 26, 27, 28, 10, 9, 8, 7, 6, 29, 5, 4, 3, 2, 1, 0, 30, 31, 32, 33, 34, 35, 36, 37, 38, 39, 40, 41, 42, 43, 44, 45, 46, 47, 48, 49, 50, 51, 52, 53, 54, 55, 56, 57, 58, 59].getD i 0
theorem sgB_inj' : ∀ i, i < 60 → ∀ j, j < 60 → sgB i = sgB j → i = j := by decide +kernel
theorem sgB_inj : ∀ i j, i < 60 → j < 60 → sgB i = sgB j → i = j := fun i j h1 h2 => sgB_inj' i h1 j h2
theorem sgB_u' : ∀ i, i < 60 → (i = 0 ∨ i = 4 ∨ i = 5 ∨ i = 6 ∨ i = 7 ∨ i = 8 ∨ i = 10 ∨ i = 11 ∨ i = 12 ∨ i = 18 ∨ i = 19 ∨ i = 20 ∨ i = 21 ∨ i = 22 ∨ i = 24 ∨ i = 25 ∨ i = 26 ∨ i = 27 ∨ i = 28 ∨ i = 29) → i ≠ 0 → sgB i < 19 := by decide +kernel
theorem sgB_u (i : Nat) (h : uB i) (h0 : i ≠ 0) : sgB i < 19 := sgB_u' i (by unfold uB at h; omega) h h0
set_option maxHeartbeats 8000000 in
set_option maxRecDepth 100000 in
theorem c_X9_init (g : GT) (w0 : Wd) (a : Nat) (h_a : w0 a = some (.inr (9, [.int 0, .int 0, .int 0, .int 0, .null, .null, .null, .null, .null, .int 0, .null, .null, .null, .int 0, .int 0, .int 0, .int 0, .int 0, .null, .null, .null, .null, .null, .int 0, .null, .null, .null, .null, .null, .null, .long 0]))) : CT g yX9_init cX9_init 1 none 1 20 19 1929 w0 [.ref a] (fun r w2 => r = none ∧ ∃ B : Nat → Nat, (∀ i j, i < 60 → j < 60 → B i = B j → i = j) ∧ B 0 = a ∧ WM g B (0, 0, 0, 0, 0, 0, 0, 0, 0, 0, 0, 0) (fun _ => 0) (fun _ => 0) (fun _ => 0) (fun _ => 0) (fun _ => 0) (fun _ => 0) (fun _ => 0) (fun _ => 0) (fun _ => 0) (fun _ => 0) (fun _ => 0) (fun _ => 0) (fun _ => 0) (fun _ => 0) (fun _ => 0) (fun _ => 0) (fun _ => 0) (fun _ => 0) (fun _ => 0) w2 ∧ (∀ i, uB i → i ≠ 0 → w0 (B i) = none) ∧ wE (fun q => q = a) w0 w2) := by
  refine CT.of (own := RX9) (by decide +kernel) rfl (Nat.le_of_ble_eq_true rfl) (fun X hC hR hI => ?_)
  have h_a0 := h_a
  show V g X 1 w0 0 0 0 [(0, .ref a)] []
  have hE : wE (fun q => q = a) w0 w0 := wE.refl
  have hD : DN w0 w0 [] := DN.nil
  refine vv_aload_n hC 0 dX9_init_0 rfl rfl ?_
  refine vv_objInit hC lk_m_X9_1 dX9_init_1 (by decide) (Nat.le_of_ble_eq_true rfl) (Nat.le_of_ble_eq_true rfl) ?_
  refine vv_aload_n hC 0 dX9_init_4 rfl rfl ?_
  refine vv_bipush (v := 16) hC dX9_init_5 (by decide) ?_
  refine vv_newaI (N := 16) hC lk_a_int dX9_init_7 (by decide) (by decide) (by decide) (Nat.le_of_ble_eq_true rfl) (Nat.le_of_ble_eq_true rfl) (fun q_path w1 hq t1 hs => ?_)
  have n0_path := hE.nn (fun _ z => (by rw [z]; exact ⟨_, h_a⟩)) hq
  have hZ := fun q (hq : w0 q = none) => hE.nn (fun _ z => (by rw [z]; exact ⟨_, h_a⟩)) hq
  have h_a := hs _ _ (fun z => z) h_a
  have hE := hE.frg hs (fun _ z => z.elim)
  have h_path : w1 q_path = some (.inl (g.2.2.1 0, 16, .inl (fun _ => 0))) := t1
  have hD := hD.join (Al.of hs (fun _ z => z.elim)) (DN.one hq t1) hZ
  refine vv_putF hC (hI rfl) fp_X9_7 dX9_init_9 h_a rfl rfl (Nat.le_of_ble_eq_true rfl) (fun w2 t1 hs => ?_)
  have h_path := hs _ _ (fw_ao h_path h_a) h_path
  have hE := hE.frg hs (fun _ z => Or.inl z)
  have h_a : w2 a = some (.inr (9, [.int 0, .int 0, .int 0, .int 0, .ref q_path, .null, .null, .null, .null, .int 0, .null, .null, .null, .int 0, .int 0, .int 0, .int 0, .int 0, .null, .null, .null, .null, .null, .int 0, .null, .null, .null, .null, .null, .null, .long 0])) := t1
  have hD := hD.keep (Al.of hs (fun _ z => (by rw [z]; exact ⟨_, h_a⟩)))
  refine vv_aload_n hC 0 dX9_init_12 rfl rfl ?_
  refine vv_bipush (v := 6) hC dX9_init_13 (by decide) ?_
  refine vv_newaI (N := 6) hC lk_a_int dX9_init_15 (by decide) (by decide) (by decide) (Nat.le_of_ble_eq_true rfl) (Nat.le_of_ble_eq_true rfl) (fun q_home w3 hq t1 hs => ?_)
  have ne_path_home := fr_ne h_path hq
  have n0_home := hE.nn (fun _ z => (by rw [z]; exact ⟨_, h_a⟩)) hq
  have hZ := fun q (hq : w2 q = none) => hE.nn (fun _ z => (by rw [z]; exact ⟨_, h_a⟩)) hq
  have h_a := hs _ _ (fun z => z) h_a
  have h_path := hs _ _ (fun z => z) h_path
  have hE := hE.frg hs (fun _ z => z.elim)
  have h_home : w3 q_home = some (.inl (g.2.2.1 0, 6, .inl (fun _ => 0))) := t1
  have hD := hD.join (Al.of hs (fun _ z => z.elim)) (DN.one hq t1) hZ
  refine vv_putF hC (hI rfl) fp_X9_13 dX9_init_17 h_a rfl rfl (Nat.le_of_ble_eq_true rfl) (fun w4 t1 hs => ?_)
  have h_path := hs _ _ (fw_ao h_path h_a) h_path
  have h_home := hs _ _ (fw_ao h_home h_a) h_home
  have hE := hE.frg hs (fun _ z => Or.inl z)
  have h_a : w4 a = some (.inr (9, [.int 0, .int 0, .int 0, .int 0, .ref q_path, .ref q_home, .null, .null, .null, .int 0, .null, .null, .null, .int 0, .int 0, .int 0, .int 0, .int 0, .null, .null, .null, .null, .null, .int 0, .null, .null, .null, .null, .null, .null, .long 0])) := t1
  have hD := hD.keep (Al.of hs (fun _ z => (by rw [z]; exact ⟨_, h_a⟩)))
  refine vv_aload_n hC 0 dX9_init_20 rfl rfl ?_
  refine vv_bipush (v := 6) hC dX9_init_21 (by decide) ?_
  refine vv_newaI (N := 6) hC lk_a_int dX9_init_23 (by decide) (by decide) (by decide) (Nat.le_of_ble_eq_true rfl) (Nat.le_of_ble_eq_true rfl) (fun q_kin w5 hq t1 hs => ?_)
  have ne_path_kin := fr_ne h_path hq
  have ne_home_kin := fr_ne h_home hq
  have n0_kin := hE.nn (fun _ z => (by rw [z]; exact ⟨_, h_a⟩)) hq
  have hZ := fun q (hq : w4 q = none) => hE.nn (fun _ z => (by rw [z]; exact ⟨_, h_a⟩)) hq
  have h_a := hs _ _ (fun z => z) h_a
  have h_path := hs _ _ (fun z => z) h_path
  have h_home := hs _ _ (fun z => z) h_home
  have hE := hE.frg hs (fun _ z => z.elim)
  have h_kin : w5 q_kin = some (.inl (g.2.2.1 0, 6, .inl (fun _ => 0))) := t1
  have hD := hD.join (Al.of hs (fun _ z => z.elim)) (DN.one hq t1) hZ
  refine vv_putF hC (hI rfl) fp_X9_16 dX9_init_25 h_a rfl rfl (Nat.le_of_ble_eq_true rfl) (fun w6 t1 hs => ?_)
  have h_path := hs _ _ (fw_ao h_path h_a) h_path
  have h_home := hs _ _ (fw_ao h_home h_a) h_home
  have h_kin := hs _ _ (fw_ao h_kin h_a) h_kin
  have hE := hE.frg hs (fun _ z => Or.inl z)
  have h_a : w6 a = some (.inr (9, [.int 0, .int 0, .int 0, .int 0, .ref q_path, .ref q_home, .ref q_kin, .null, .null, .int 0, .null, .null, .null, .int 0, .int 0, .int 0, .int 0, .int 0, .null, .null, .null, .null, .null, .int 0, .null, .null, .null, .null, .null, .null, .long 0])) := t1
  have hD := hD.keep (Al.of hs (fun _ z => (by rw [z]; exact ⟨_, h_a⟩)))
  refine vv_aload_n hC 0 dX9_init_28 rfl rfl ?_
  refine vv_bipush (v := 43) hC dX9_init_29 (by decide) ?_
  refine vv_newaI (N := 43) hC lk_a_int dX9_init_31 (by decide) (by decide) (by decide) (Nat.le_of_ble_eq_true rfl) (Nat.le_of_ble_eq_true rfl) (fun q_now w7 hq t1 hs => ?_)
  have ne_path_now := fr_ne h_path hq
  have ne_home_now := fr_ne h_home hq
  have ne_kin_now := fr_ne h_kin hq
  have n0_now := hE.nn (fun _ z => (by rw [z]; exact ⟨_, h_a⟩)) hq
  have hZ := fun q (hq : w6 q = none) => hE.nn (fun _ z => (by rw [z]; exact ⟨_, h_a⟩)) hq
  have h_a := hs _ _ (fun z => z) h_a
  have h_path := hs _ _ (fun z => z) h_path
  have h_home := hs _ _ (fun z => z) h_home
  have h_kin := hs _ _ (fun z => z) h_kin
  have hE := hE.frg hs (fun _ z => z.elim)
  have h_now : w7 q_now = some (.inl (g.2.2.1 0, 43, .inl (fun _ => 0))) := t1
  have hD := hD.join (Al.of hs (fun _ z => z.elim)) (DN.one hq t1) hZ
  refine vv_putF hC (hI rfl) fp_X9_19 dX9_init_33 h_a rfl rfl (Nat.le_of_ble_eq_true rfl) (fun w8 t1 hs => ?_)
  have h_path := hs _ _ (fw_ao h_path h_a) h_path
  have h_home := hs _ _ (fw_ao h_home h_a) h_home
  have h_kin := hs _ _ (fw_ao h_kin h_a) h_kin
  have h_now := hs _ _ (fw_ao h_now h_a) h_now
  have hE := hE.frg hs (fun _ z => Or.inl z)
  have h_a : w8 a = some (.inr (9, [.int 0, .int 0, .int 0, .int 0, .ref q_path, .ref q_home, .ref q_kin, .ref q_now, .null, .int 0, .null, .null, .null, .int 0, .int 0, .int 0, .int 0, .int 0, .null, .null, .null, .null, .null, .int 0, .null, .null, .null, .null, .null, .null, .long 0])) := t1
  have hD := hD.keep (Al.of hs (fun _ z => (by rw [z]; exact ⟨_, h_a⟩)))
  refine vv_aload_n hC 0 dX9_init_36 rfl rfl ?_
  refine vv_sipush (v := 688) hC dX9_init_37 (by decide) ?_
  refine vv_newaI (N := 688) hC lk_a_int dX9_init_40 (by decide) (by decide) (by decide) (Nat.le_of_ble_eq_true rfl) (Nat.le_of_ble_eq_true rfl) (fun q_was w9 hq t1 hs => ?_)
  have ne_path_was := fr_ne h_path hq
  have ne_home_was := fr_ne h_home hq
  have ne_kin_was := fr_ne h_kin hq
  have ne_now_was := fr_ne h_now hq
  have n0_was := hE.nn (fun _ z => (by rw [z]; exact ⟨_, h_a⟩)) hq
  have hZ := fun q (hq : w8 q = none) => hE.nn (fun _ z => (by rw [z]; exact ⟨_, h_a⟩)) hq
  have h_a := hs _ _ (fun z => z) h_a
  have h_path := hs _ _ (fun z => z) h_path
  have h_home := hs _ _ (fun z => z) h_home
  have h_kin := hs _ _ (fun z => z) h_kin
  have h_now := hs _ _ (fun z => z) h_now
  have hE := hE.frg hs (fun _ z => z.elim)
  have h_was : w9 q_was = some (.inl (g.2.2.1 0, 688, .inl (fun _ => 0))) := t1
  have hD := hD.join (Al.of hs (fun _ z => z.elim)) (DN.one hq t1) hZ
  refine vv_putF hC (hI rfl) fp_X9_22 dX9_init_42 h_a rfl rfl (Nat.le_of_ble_eq_true rfl) (fun w10 t1 hs => ?_)
  have h_path := hs _ _ (fw_ao h_path h_a) h_path
  have h_home := hs _ _ (fw_ao h_home h_a) h_home
  have h_kin := hs _ _ (fw_ao h_kin h_a) h_kin
  have h_now := hs _ _ (fw_ao h_now h_a) h_now
  have h_was := hs _ _ (fw_ao h_was h_a) h_was
  have hE := hE.frg hs (fun _ z => Or.inl z)
  have h_a : w10 a = some (.inr (9, [.int 0, .int 0, .int 0, .int 0, .ref q_path, .ref q_home, .ref q_kin, .ref q_now, .ref q_was, .int 0, .null, .null, .null, .int 0, .int 0, .int 0, .int 0, .int 0, .null, .null, .null, .null, .null, .int 0, .null, .null, .null, .null, .null, .null, .long 0])) := t1
  have hD := hD.keep (Al.of hs (fun _ z => (by rw [z]; exact ⟨_, h_a⟩)))
  refine vv_aload_n hC 0 dX9_init_45 rfl rfl ?_
  refine vv_bipush (v := 86) hC dX9_init_46 (by decide) ?_
  refine vv_newaI (N := 86) hC lk_a_int dX9_init_48 (by decide) (by decide) (by decide) (Nat.le_of_ble_eq_true rfl) (Nat.le_of_ble_eq_true rfl) (fun q_kept w11 hq t1 hs => ?_)
  have ne_path_kept := fr_ne h_path hq
  have ne_home_kept := fr_ne h_home hq
  have ne_kin_kept := fr_ne h_kin hq
  have ne_now_kept := fr_ne h_now hq
  have ne_was_kept := fr_ne h_was hq
  have n0_kept := hE.nn (fun _ z => (by rw [z]; exact ⟨_, h_a⟩)) hq
  have hZ := fun q (hq : w10 q = none) => hE.nn (fun _ z => (by rw [z]; exact ⟨_, h_a⟩)) hq
  have h_a := hs _ _ (fun z => z) h_a
  have h_path := hs _ _ (fun z => z) h_path
  have h_home := hs _ _ (fun z => z) h_home
  have h_kin := hs _ _ (fun z => z) h_kin
  have h_now := hs _ _ (fun z => z) h_now
  have h_was := hs _ _ (fun z => z) h_was
  have hE := hE.frg hs (fun _ z => z.elim)
  have h_kept : w11 q_kept = some (.inl (g.2.2.1 0, 86, .inl (fun _ => 0))) := t1
  have hD := hD.join (Al.of hs (fun _ z => z.elim)) (DN.one hq t1) hZ
  refine vv_putF hC (hI rfl) fp_X9_25 dX9_init_50 h_a rfl rfl (Nat.le_of_ble_eq_true rfl) (fun w12 t1 hs => ?_)
  have h_path := hs _ _ (fw_ao h_path h_a) h_path
  have h_home := hs _ _ (fw_ao h_home h_a) h_home
  have h_kin := hs _ _ (fw_ao h_kin h_a) h_kin
  have h_now := hs _ _ (fw_ao h_now h_a) h_now
  have h_was := hs _ _ (fw_ao h_was h_a) h_was
  have h_kept := hs _ _ (fw_ao h_kept h_a) h_kept
  have hE := hE.frg hs (fun _ z => Or.inl z)
  have h_a : w12 a = some (.inr (9, [.int 0, .int 0, .int 0, .int 0, .ref q_path, .ref q_home, .ref q_kin, .ref q_now, .ref q_was, .int 0, .ref q_kept, .null, .null, .int 0, .int 0, .int 0, .int 0, .int 0, .null, .null, .null, .null, .null, .int 0, .null, .null, .null, .null, .null, .null, .long 0])) := t1
  have hD := hD.keep (Al.of hs (fun _ z => (by rw [z]; exact ⟨_, h_a⟩)))
  refine vv_aload_n hC 0 dX9_init_53 rfl rfl ?_
  refine vv_iconst (v := 2) hC dX9_init_54 (by decide) ?_
  refine vv_newaZ (N := 2) hC lk_a_boolean dX9_init_55 (by decide) (by decide) (by decide) (Nat.le_of_ble_eq_true rfl) (Nat.le_of_ble_eq_true rfl) (fun q_isKept w13 hq t1 hs => ?_)
  have ne_path_isKept := fr_ne h_path hq
  have ne_home_isKept := fr_ne h_home hq
  have ne_kin_isKept := fr_ne h_kin hq
  have ne_now_isKept := fr_ne h_now hq
  have ne_was_isKept := fr_ne h_was hq
  have ne_kept_isKept := fr_ne h_kept hq
  have n0_isKept := hE.nn (fun _ z => (by rw [z]; exact ⟨_, h_a⟩)) hq
  have hZ := fun q (hq : w12 q = none) => hE.nn (fun _ z => (by rw [z]; exact ⟨_, h_a⟩)) hq
  have h_a := hs _ _ (fun z => z) h_a
  have h_path := hs _ _ (fun z => z) h_path
  have h_home := hs _ _ (fun z => z) h_home
  have h_kin := hs _ _ (fun z => z) h_kin
  have h_now := hs _ _ (fun z => z) h_now
  have h_was := hs _ _ (fun z => z) h_was
  have h_kept := hs _ _ (fun z => z) h_kept
  have hE := hE.frg hs (fun _ z => z.elim)
  have h_isKept : w13 q_isKept = some (.inl (g.2.2.1 3, 2, .inl (fun _ => 0))) := t1
  have hD := hD.join (Al.of hs (fun _ z => z.elim)) (DN.one hq t1) hZ
  refine vv_putF hC (hI rfl) fp_X9_28 dX9_init_57 h_a rfl rfl (Nat.le_of_ble_eq_true rfl) (fun w14 t1 hs => ?_)
  have h_path := hs _ _ (fw_ao h_path h_a) h_path
  have h_home := hs _ _ (fw_ao h_home h_a) h_home
  have h_kin := hs _ _ (fw_ao h_kin h_a) h_kin
  have h_now := hs _ _ (fw_ao h_now h_a) h_now
  have h_was := hs _ _ (fw_ao h_was h_a) h_was
  have h_kept := hs _ _ (fw_ao h_kept h_a) h_kept
  have h_isKept := hs _ _ (fw_ao h_isKept h_a) h_isKept
  have hE := hE.frg hs (fun _ z => Or.inl z)
  have h_a : w14 a = some (.inr (9, [.int 0, .int 0, .int 0, .int 0, .ref q_path, .ref q_home, .ref q_kin, .ref q_now, .ref q_was, .int 0, .ref q_kept, .ref q_isKept, .null, .int 0, .int 0, .int 0, .int 0, .int 0, .null, .null, .null, .null, .null, .int 0, .null, .null, .null, .null, .null, .null, .long 0])) := t1
  have hD := hD.keep (Al.of hs (fun _ z => (by rw [z]; exact ⟨_, h_a⟩)))
  refine vv_aload_n hC 0 dX9_init_60 rfl rfl ?_
  refine vv_bipush (v := 96) hC dX9_init_61 (by decide) ?_
  refine vv_newaI (N := 96) hC lk_a_int dX9_init_63 (by decide) (by decide) (by decide) (Nat.le_of_ble_eq_true rfl) (Nat.le_of_ble_eq_true rfl) (fun q_text w15 hq t1 hs => ?_)
  have ne_path_text := fr_ne h_path hq
  have ne_home_text := fr_ne h_home hq
  have ne_kin_text := fr_ne h_kin hq
  have ne_now_text := fr_ne h_now hq
  have ne_was_text := fr_ne h_was hq
  have ne_kept_text := fr_ne h_kept hq
  have ne_isKept_text := fr_ne h_isKept hq
  have n0_text := hE.nn (fun _ z => (by rw [z]; exact ⟨_, h_a⟩)) hq
  have hZ := fun q (hq : w14 q = none) => hE.nn (fun _ z => (by rw [z]; exact ⟨_, h_a⟩)) hq
  have h_a := hs _ _ (fun z => z) h_a
  have h_path := hs _ _ (fun z => z) h_path
  have h_home := hs _ _ (fun z => z) h_home
  have h_kin := hs _ _ (fun z => z) h_kin
  have h_now := hs _ _ (fun z => z) h_now
  have h_was := hs _ _ (fun z => z) h_was
  have h_kept := hs _ _ (fun z => z) h_kept
  have h_isKept := hs _ _ (fun z => z) h_isKept
  have hE := hE.frg hs (fun _ z => z.elim)
  have h_text : w15 q_text = some (.inl (g.2.2.1 0, 96, .inl (fun _ => 0))) := t1
  have hD := hD.join (Al.of hs (fun _ z => z.elim)) (DN.one hq t1) hZ
  refine vv_putF hC (hI rfl) fp_X9_32 dX9_init_65 h_a rfl rfl (Nat.le_of_ble_eq_true rfl) (fun w16 t1 hs => ?_)
  have h_path := hs _ _ (fw_ao h_path h_a) h_path
  have h_home := hs _ _ (fw_ao h_home h_a) h_home
  have h_kin := hs _ _ (fw_ao h_kin h_a) h_kin
  have h_now := hs _ _ (fw_ao h_now h_a) h_now
  have h_was := hs _ _ (fw_ao h_was h_a) h_was
  have h_kept := hs _ _ (fw_ao h_kept h_a) h_kept
  have h_isKept := hs _ _ (fw_ao h_isKept h_a) h_isKept
  have h_text := hs _ _ (fw_ao h_text h_a) h_text
  have hE := hE.frg hs (fun _ z => Or.inl z)
  have h_a : w16 a = some (.inr (9, [.int 0, .int 0, .int 0, .int 0, .ref q_path, .ref q_home, .ref q_kin, .ref q_now, .ref q_was, .int 0, .ref q_kept, .ref q_isKept, .ref q_text, .int 0, .int 0, .int 0, .int 0, .int 0, .null, .null, .null, .null, .null, .int 0, .null, .null, .null, .null, .null, .null, .long 0])) := t1
  have hD := hD.keep (Al.of hs (fun _ z => (by rw [z]; exact ⟨_, h_a⟩)))
  refine vv_aload_n hC 0 dX9_init_68 rfl rfl ?_
  refine vv_bipush (v := 16) hC dX9_init_69 (by decide) ?_
  refine vv_newaI (N := 16) hC lk_a_int dX9_init_71 (by decide) (by decide) (by decide) (Nat.le_of_ble_eq_true rfl) (Nat.le_of_ble_eq_true rfl) (fun q_readPath w17 hq t1 hs => ?_)
  have ne_path_readPath := fr_ne h_path hq
  have ne_home_readPath := fr_ne h_home hq
  have ne_kin_readPath := fr_ne h_kin hq
  have ne_now_readPath := fr_ne h_now hq
  have ne_was_readPath := fr_ne h_was hq
  have ne_kept_readPath := fr_ne h_kept hq
  have ne_isKept_readPath := fr_ne h_isKept hq
  have ne_text_readPath := fr_ne h_text hq
  have n0_readPath := hE.nn (fun _ z => (by rw [z]; exact ⟨_, h_a⟩)) hq
  have hZ := fun q (hq : w16 q = none) => hE.nn (fun _ z => (by rw [z]; exact ⟨_, h_a⟩)) hq
  have h_a := hs _ _ (fun z => z) h_a
  have h_path := hs _ _ (fun z => z) h_path
  have h_home := hs _ _ (fun z => z) h_home
  have h_kin := hs _ _ (fun z => z) h_kin
  have h_now := hs _ _ (fun z => z) h_now
  have h_was := hs _ _ (fun z => z) h_was
  have h_kept := hs _ _ (fun z => z) h_kept
  have h_isKept := hs _ _ (fun z => z) h_isKept
  have h_text := hs _ _ (fun z => z) h_text
  have hE := hE.frg hs (fun _ z => z.elim)
  have h_readPath : w17 q_readPath = some (.inl (g.2.2.1 0, 16, .inl (fun _ => 0))) := t1
  have hD := hD.join (Al.of hs (fun _ z => z.elim)) (DN.one hq t1) hZ
  refine vv_putF hC (hI rfl) fp_X9_35 dX9_init_73 h_a rfl rfl (Nat.le_of_ble_eq_true rfl) (fun w18 t1 hs => ?_)
  have h_path := hs _ _ (fw_ao h_path h_a) h_path
  have h_home := hs _ _ (fw_ao h_home h_a) h_home
  have h_kin := hs _ _ (fw_ao h_kin h_a) h_kin
  have h_now := hs _ _ (fw_ao h_now h_a) h_now
  have h_was := hs _ _ (fw_ao h_was h_a) h_was
  have h_kept := hs _ _ (fw_ao h_kept h_a) h_kept
  have h_isKept := hs _ _ (fw_ao h_isKept h_a) h_isKept
  have h_text := hs _ _ (fw_ao h_text h_a) h_text
  have h_readPath := hs _ _ (fw_ao h_readPath h_a) h_readPath
  have hE := hE.frg hs (fun _ z => Or.inl z)
  have h_a : w18 a = some (.inr (9, [.int 0, .int 0, .int 0, .int 0, .ref q_path, .ref q_home, .ref q_kin, .ref q_now, .ref q_was, .int 0, .ref q_kept, .ref q_isKept, .ref q_text, .int 0, .int 0, .int 0, .int 0, .int 0, .ref q_readPath, .null, .null, .null, .null, .int 0, .null, .null, .null, .null, .null, .null, .long 0])) := t1
  have hD := hD.keep (Al.of hs (fun _ z => (by rw [z]; exact ⟨_, h_a⟩)))
  refine vv_aload_n hC 0 dX9_init_76 rfl rfl ?_
  refine vv_bipush (v := 6) hC dX9_init_77 (by decide) ?_
  refine vv_newaI (N := 6) hC lk_a_int dX9_init_79 (by decide) (by decide) (by decide) (Nat.le_of_ble_eq_true rfl) (Nat.le_of_ble_eq_true rfl) (fun q_readHome w19 hq t1 hs => ?_)
  have ne_path_readHome := fr_ne h_path hq
  have ne_home_readHome := fr_ne h_home hq
  have ne_kin_readHome := fr_ne h_kin hq
  have ne_now_readHome := fr_ne h_now hq
  have ne_was_readHome := fr_ne h_was hq
  have ne_kept_readHome := fr_ne h_kept hq
  have ne_isKept_readHome := fr_ne h_isKept hq
  have ne_text_readHome := fr_ne h_text hq
  have ne_readPath_readHome := fr_ne h_readPath hq
  have n0_readHome := hE.nn (fun _ z => (by rw [z]; exact ⟨_, h_a⟩)) hq
  have hZ := fun q (hq : w18 q = none) => hE.nn (fun _ z => (by rw [z]; exact ⟨_, h_a⟩)) hq
  have h_a := hs _ _ (fun z => z) h_a
  have h_path := hs _ _ (fun z => z) h_path
  have h_home := hs _ _ (fun z => z) h_home
  have h_kin := hs _ _ (fun z => z) h_kin
  have h_now := hs _ _ (fun z => z) h_now
  have h_was := hs _ _ (fun z => z) h_was
  have h_kept := hs _ _ (fun z => z) h_kept
  have h_isKept := hs _ _ (fun z => z) h_isKept
  have h_text := hs _ _ (fun z => z) h_text
  have h_readPath := hs _ _ (fun z => z) h_readPath
  have hE := hE.frg hs (fun _ z => z.elim)
  have h_readHome : w19 q_readHome = some (.inl (g.2.2.1 0, 6, .inl (fun _ => 0))) := t1
  have hD := hD.join (Al.of hs (fun _ z => z.elim)) (DN.one hq t1) hZ
  refine vv_putF hC (hI rfl) fp_X9_38 dX9_init_81 h_a rfl rfl (Nat.le_of_ble_eq_true rfl) (fun w20 t1 hs => ?_)
  have h_path := hs _ _ (fw_ao h_path h_a) h_path
  have h_home := hs _ _ (fw_ao h_home h_a) h_home
  have h_kin := hs _ _ (fw_ao h_kin h_a) h_kin
  have h_now := hs _ _ (fw_ao h_now h_a) h_now
  have h_was := hs _ _ (fw_ao h_was h_a) h_was
  have h_kept := hs _ _ (fw_ao h_kept h_a) h_kept
  have h_isKept := hs _ _ (fw_ao h_isKept h_a) h_isKept
  have h_text := hs _ _ (fw_ao h_text h_a) h_text
  have h_readPath := hs _ _ (fw_ao h_readPath h_a) h_readPath
  have h_readHome := hs _ _ (fw_ao h_readHome h_a) h_readHome
  have hE := hE.frg hs (fun _ z => Or.inl z)
  have h_a : w20 a = some (.inr (9, [.int 0, .int 0, .int 0, .int 0, .ref q_path, .ref q_home, .ref q_kin, .ref q_now, .ref q_was, .int 0, .ref q_kept, .ref q_isKept, .ref q_text, .int 0, .int 0, .int 0, .int 0, .int 0, .ref q_readPath, .ref q_readHome, .null, .null, .null, .int 0, .null, .null, .null, .null, .null, .null, .long 0])) := t1
  have hD := hD.keep (Al.of hs (fun _ z => (by rw [z]; exact ⟨_, h_a⟩)))
  refine vv_aload_n hC 0 dX9_init_84 rfl rfl ?_
  refine vv_bipush (v := 6) hC dX9_init_85 (by decide) ?_
  refine vv_newaI (N := 6) hC lk_a_int dX9_init_87 (by decide) (by decide) (by decide) (Nat.le_of_ble_eq_true rfl) (Nat.le_of_ble_eq_true rfl) (fun q_readKin w21 hq t1 hs => ?_)
  have ne_path_readKin := fr_ne h_path hq
  have ne_home_readKin := fr_ne h_home hq
  have ne_kin_readKin := fr_ne h_kin hq
  have ne_now_readKin := fr_ne h_now hq
  have ne_was_readKin := fr_ne h_was hq
  have ne_kept_readKin := fr_ne h_kept hq
  have ne_isKept_readKin := fr_ne h_isKept hq
  have ne_text_readKin := fr_ne h_text hq
  have ne_readPath_readKin := fr_ne h_readPath hq
  have ne_readHome_readKin := fr_ne h_readHome hq
  have n0_readKin := hE.nn (fun _ z => (by rw [z]; exact ⟨_, h_a⟩)) hq
  have hZ := fun q (hq : w20 q = none) => hE.nn (fun _ z => (by rw [z]; exact ⟨_, h_a⟩)) hq
  have h_a := hs _ _ (fun z => z) h_a
  have h_path := hs _ _ (fun z => z) h_path
  have h_home := hs _ _ (fun z => z) h_home
  have h_kin := hs _ _ (fun z => z) h_kin
  have h_now := hs _ _ (fun z => z) h_now
  have h_was := hs _ _ (fun z => z) h_was
  have h_kept := hs _ _ (fun z => z) h_kept
  have h_isKept := hs _ _ (fun z => z) h_isKept
  have h_text := hs _ _ (fun z => z) h_text
  have h_readPath := hs _ _ (fun z => z) h_readPath
  have h_readHome := hs _ _ (fun z => z) h_readHome
  have hE := hE.frg hs (fun _ z => z.elim)
  have h_readKin : w21 q_readKin = some (.inl (g.2.2.1 0, 6, .inl (fun _ => 0))) := t1
  have hD := hD.join (Al.of hs (fun _ z => z.elim)) (DN.one hq t1) hZ
  refine vv_putF hC (hI rfl) fp_X9_41 dX9_init_89 h_a rfl rfl (Nat.le_of_ble_eq_true rfl) (fun w22 t1 hs => ?_)
  have h_path := hs _ _ (fw_ao h_path h_a) h_path
  have h_home := hs _ _ (fw_ao h_home h_a) h_home
  have h_kin := hs _ _ (fw_ao h_kin h_a) h_kin
  have h_now := hs _ _ (fw_ao h_now h_a) h_now
  have h_was := hs _ _ (fw_ao h_was h_a) h_was
  have h_kept := hs _ _ (fw_ao h_kept h_a) h_kept
  have h_isKept := hs _ _ (fw_ao h_isKept h_a) h_isKept
  have h_text := hs _ _ (fw_ao h_text h_a) h_text
  have h_readPath := hs _ _ (fw_ao h_readPath h_a) h_readPath
  have h_readHome := hs _ _ (fw_ao h_readHome h_a) h_readHome
  have h_readKin := hs _ _ (fw_ao h_readKin h_a) h_readKin
  have hE := hE.frg hs (fun _ z => Or.inl z)
  have h_a : w22 a = some (.inr (9, [.int 0, .int 0, .int 0, .int 0, .ref q_path, .ref q_home, .ref q_kin, .ref q_now, .ref q_was, .int 0, .ref q_kept, .ref q_isKept, .ref q_text, .int 0, .int 0, .int 0, .int 0, .int 0, .ref q_readPath, .ref q_readHome, .ref q_readKin, .null, .null, .int 0, .null, .null, .null, .null, .null, .null, .long 0])) := t1
  have hD := hD.keep (Al.of hs (fun _ z => (by rw [z]; exact ⟨_, h_a⟩)))
  refine vv_aload_n hC 0 dX9_init_92 rfl rfl ?_
  refine vv_bipush (v := 43) hC dX9_init_93 (by decide) ?_
  refine vv_newaI (N := 43) hC lk_a_int dX9_init_95 (by decide) (by decide) (by decide) (Nat.le_of_ble_eq_true rfl) (Nat.le_of_ble_eq_true rfl) (fun q_read w23 hq t1 hs => ?_)
  have ne_path_read := fr_ne h_path hq
  have ne_home_read := fr_ne h_home hq
  have ne_kin_read := fr_ne h_kin hq
  have ne_now_read := fr_ne h_now hq
  have ne_was_read := fr_ne h_was hq
  have ne_kept_read := fr_ne h_kept hq
  have ne_isKept_read := fr_ne h_isKept hq
  have ne_text_read := fr_ne h_text hq
  have ne_readPath_read := fr_ne h_readPath hq
  have ne_readHome_read := fr_ne h_readHome hq
  have ne_readKin_read := fr_ne h_readKin hq
  have n0_read := hE.nn (fun _ z => (by rw [z]; exact ⟨_, h_a⟩)) hq
  have hZ := fun q (hq : w22 q = none) => hE.nn (fun _ z => (by rw [z]; exact ⟨_, h_a⟩)) hq
  have h_a := hs _ _ (fun z => z) h_a
  have h_path := hs _ _ (fun z => z) h_path
  have h_home := hs _ _ (fun z => z) h_home
  have h_kin := hs _ _ (fun z => z) h_kin
  have h_now := hs _ _ (fun z => z) h_now
  have h_was := hs _ _ (fun z => z) h_was
  have h_kept := hs _ _ (fun z => z) h_kept
  have h_isKept := hs _ _ (fun z => z) h_isKept
  have h_text := hs _ _ (fun z => z) h_text
  have h_readPath := hs _ _ (fun z => z) h_readPath
  have h_readHome := hs _ _ (fun z => z) h_readHome
  have h_readKin := hs _ _ (fun z => z) h_readKin
  have hE := hE.frg hs (fun _ z => z.elim)
  have h_read : w23 q_read = some (.inl (g.2.2.1 0, 43, .inl (fun _ => 0))) := t1
  have hD := hD.join (Al.of hs (fun _ z => z.elim)) (DN.one hq t1) hZ
  refine vv_putF hC (hI rfl) fp_X9_44 dX9_init_97 h_a rfl rfl (Nat.le_of_ble_eq_true rfl) (fun w24 t1 hs => ?_)
  have h_path := hs _ _ (fw_ao h_path h_a) h_path
  have h_home := hs _ _ (fw_ao h_home h_a) h_home
  have h_kin := hs _ _ (fw_ao h_kin h_a) h_kin
  have h_now := hs _ _ (fw_ao h_now h_a) h_now
  have h_was := hs _ _ (fw_ao h_was h_a) h_was
  have h_kept := hs _ _ (fw_ao h_kept h_a) h_kept
  have h_isKept := hs _ _ (fw_ao h_isKept h_a) h_isKept
  have h_text := hs _ _ (fw_ao h_text h_a) h_text
  have h_readPath := hs _ _ (fw_ao h_readPath h_a) h_readPath
  have h_readHome := hs _ _ (fw_ao h_readHome h_a) h_readHome
  have h_readKin := hs _ _ (fw_ao h_readKin h_a) h_readKin
  have h_read := hs _ _ (fw_ao h_read h_a) h_read
  have hE := hE.frg hs (fun _ z => Or.inl z)
  have h_a : w24 a = some (.inr (9, [.int 0, .int 0, .int 0, .int 0, .ref q_path, .ref q_home, .ref q_kin, .ref q_now, .ref q_was, .int 0, .ref q_kept, .ref q_isKept, .ref q_text, .int 0, .int 0, .int 0, .int 0, .int 0, .ref q_readPath, .ref q_readHome, .ref q_readKin, .ref q_read, .null, .int 0, .null, .null, .null, .null, .null, .null, .long 0])) := t1
  have hD := hD.keep (Al.of hs (fun _ z => (by rw [z]; exact ⟨_, h_a⟩)))
  refine vv_aload_n hC 0 dX9_init_100 rfl rfl ?_
  refine vv_bipush (v := 24) hC dX9_init_101 (by decide) ?_
  refine vv_newaI (N := 24) hC lk_a_int dX9_init_103 (by decide) (by decide) (by decide) (Nat.le_of_ble_eq_true rfl) (Nat.le_of_ble_eq_true rfl) (fun q_sight w25 hq t1 hs => ?_)
  have ne_path_sight := fr_ne h_path hq
  have ne_home_sight := fr_ne h_home hq
  have ne_kin_sight := fr_ne h_kin hq
  have ne_now_sight := fr_ne h_now hq
  have ne_was_sight := fr_ne h_was hq
  have ne_kept_sight := fr_ne h_kept hq
  have ne_isKept_sight := fr_ne h_isKept hq
  have ne_text_sight := fr_ne h_text hq
  have ne_readPath_sight := fr_ne h_readPath hq
  have ne_readHome_sight := fr_ne h_readHome hq
  have ne_readKin_sight := fr_ne h_readKin hq
  have ne_read_sight := fr_ne h_read hq
  have n0_sight := hE.nn (fun _ z => (by rw [z]; exact ⟨_, h_a⟩)) hq
  have hZ := fun q (hq : w24 q = none) => hE.nn (fun _ z => (by rw [z]; exact ⟨_, h_a⟩)) hq
  have h_a := hs _ _ (fun z => z) h_a
  have h_path := hs _ _ (fun z => z) h_path
  have h_home := hs _ _ (fun z => z) h_home
  have h_kin := hs _ _ (fun z => z) h_kin
  have h_now := hs _ _ (fun z => z) h_now
  have h_was := hs _ _ (fun z => z) h_was
  have h_kept := hs _ _ (fun z => z) h_kept
  have h_isKept := hs _ _ (fun z => z) h_isKept
  have h_text := hs _ _ (fun z => z) h_text
  have h_readPath := hs _ _ (fun z => z) h_readPath
  have h_readHome := hs _ _ (fun z => z) h_readHome
  have h_readKin := hs _ _ (fun z => z) h_readKin
  have h_read := hs _ _ (fun z => z) h_read
  have hE := hE.frg hs (fun _ z => z.elim)
  have h_sight : w25 q_sight = some (.inl (g.2.2.1 0, 24, .inl (fun _ => 0))) := t1
  have hD := hD.join (Al.of hs (fun _ z => z.elim)) (DN.one hq t1) hZ
  refine vv_putF hC (hI rfl) fp_X9_47 dX9_init_105 h_a rfl rfl (Nat.le_of_ble_eq_true rfl) (fun w26 t1 hs => ?_)
  have h_path := hs _ _ (fw_ao h_path h_a) h_path
  have h_home := hs _ _ (fw_ao h_home h_a) h_home
  have h_kin := hs _ _ (fw_ao h_kin h_a) h_kin
  have h_now := hs _ _ (fw_ao h_now h_a) h_now
  have h_was := hs _ _ (fw_ao h_was h_a) h_was
  have h_kept := hs _ _ (fw_ao h_kept h_a) h_kept
  have h_isKept := hs _ _ (fw_ao h_isKept h_a) h_isKept
  have h_text := hs _ _ (fw_ao h_text h_a) h_text
  have h_readPath := hs _ _ (fw_ao h_readPath h_a) h_readPath
  have h_readHome := hs _ _ (fw_ao h_readHome h_a) h_readHome
  have h_readKin := hs _ _ (fw_ao h_readKin h_a) h_readKin
  have h_read := hs _ _ (fw_ao h_read h_a) h_read
  have h_sight := hs _ _ (fw_ao h_sight h_a) h_sight
  have hE := hE.frg hs (fun _ z => Or.inl z)
  have h_a : w26 a = some (.inr (9, [.int 0, .int 0, .int 0, .int 0, .ref q_path, .ref q_home, .ref q_kin, .ref q_now, .ref q_was, .int 0, .ref q_kept, .ref q_isKept, .ref q_text, .int 0, .int 0, .int 0, .int 0, .int 0, .ref q_readPath, .ref q_readHome, .ref q_readKin, .ref q_read, .ref q_sight, .int 0, .null, .null, .null, .null, .null, .null, .long 0])) := t1
  have hD := hD.keep (Al.of hs (fun _ z => (by rw [z]; exact ⟨_, h_a⟩)))
  refine vv_aload_n hC 0 dX9_init_108 rfl rfl ?_
  refine vv_bipush (v := 6) hC dX9_init_109 (by decide) ?_
  refine vv_newaI (N := 6) hC lk_a_int dX9_init_111 (by decide) (by decide) (by decide) (Nat.le_of_ble_eq_true rfl) (Nat.le_of_ble_eq_true rfl) (fun q_went w27 hq t1 hs => ?_)
  have ne_path_went := fr_ne h_path hq
  have ne_home_went := fr_ne h_home hq
  have ne_kin_went := fr_ne h_kin hq
  have ne_now_went := fr_ne h_now hq
  have ne_was_went := fr_ne h_was hq
  have ne_kept_went := fr_ne h_kept hq
  have ne_isKept_went := fr_ne h_isKept hq
  have ne_text_went := fr_ne h_text hq
  have ne_readPath_went := fr_ne h_readPath hq
  have ne_readHome_went := fr_ne h_readHome hq
  have ne_readKin_went := fr_ne h_readKin hq
  have ne_read_went := fr_ne h_read hq
  have ne_sight_went := fr_ne h_sight hq
  have n0_went := hE.nn (fun _ z => (by rw [z]; exact ⟨_, h_a⟩)) hq
  have hZ := fun q (hq : w26 q = none) => hE.nn (fun _ z => (by rw [z]; exact ⟨_, h_a⟩)) hq
  have h_a := hs _ _ (fun z => z) h_a
  have h_path := hs _ _ (fun z => z) h_path
  have h_home := hs _ _ (fun z => z) h_home
  have h_kin := hs _ _ (fun z => z) h_kin
  have h_now := hs _ _ (fun z => z) h_now
  have h_was := hs _ _ (fun z => z) h_was
  have h_kept := hs _ _ (fun z => z) h_kept
  have h_isKept := hs _ _ (fun z => z) h_isKept
  have h_text := hs _ _ (fun z => z) h_text
  have h_readPath := hs _ _ (fun z => z) h_readPath
  have h_readHome := hs _ _ (fun z => z) h_readHome
  have h_readKin := hs _ _ (fun z => z) h_readKin
  have h_read := hs _ _ (fun z => z) h_read
  have h_sight := hs _ _ (fun z => z) h_sight
  have hE := hE.frg hs (fun _ z => z.elim)
  have h_went : w27 q_went = some (.inl (g.2.2.1 0, 6, .inl (fun _ => 0))) := t1
  have hD := hD.join (Al.of hs (fun _ z => z.elim)) (DN.one hq t1) hZ
  refine vv_putF hC (hI rfl) fp_X9_50 dX9_init_113 h_a rfl rfl (Nat.le_of_ble_eq_true rfl) (fun w28 t1 hs => ?_)
  have h_path := hs _ _ (fw_ao h_path h_a) h_path
  have h_home := hs _ _ (fw_ao h_home h_a) h_home
  have h_kin := hs _ _ (fw_ao h_kin h_a) h_kin
  have h_now := hs _ _ (fw_ao h_now h_a) h_now
  have h_was := hs _ _ (fw_ao h_was h_a) h_was
  have h_kept := hs _ _ (fw_ao h_kept h_a) h_kept
  have h_isKept := hs _ _ (fw_ao h_isKept h_a) h_isKept
  have h_text := hs _ _ (fw_ao h_text h_a) h_text
  have h_readPath := hs _ _ (fw_ao h_readPath h_a) h_readPath
  have h_readHome := hs _ _ (fw_ao h_readHome h_a) h_readHome
  have h_readKin := hs _ _ (fw_ao h_readKin h_a) h_readKin
  have h_read := hs _ _ (fw_ao h_read h_a) h_read
  have h_sight := hs _ _ (fw_ao h_sight h_a) h_sight
  have h_went := hs _ _ (fw_ao h_went h_a) h_went
  have hE := hE.frg hs (fun _ z => Or.inl z)
  have h_a : w28 a = some (.inr (9, [.int 0, .int 0, .int 0, .int 0, .ref q_path, .ref q_home, .ref q_kin, .ref q_now, .ref q_was, .int 0, .ref q_kept, .ref q_isKept, .ref q_text, .int 0, .int 0, .int 0, .int 0, .int 0, .ref q_readPath, .ref q_readHome, .ref q_readKin, .ref q_read, .ref q_sight, .int 0, .ref q_went, .null, .null, .null, .null, .null, .long 0])) := t1
  have hD := hD.keep (Al.of hs (fun _ z => (by rw [z]; exact ⟨_, h_a⟩)))
  refine vv_aload_n hC 0 dX9_init_116 rfl rfl ?_
  refine vv_bipush (v := 64) hC dX9_init_117 (by decide) ?_
  refine vv_newaJ (N := 64) hC lk_a_long dX9_init_119 (by decide) (by decide) (by decide) (Nat.le_of_ble_eq_true rfl) (Nat.le_of_ble_eq_true rfl) (fun q_tales w29 hq t1 hs => ?_)
  have ne_path_tales := fr_ne h_path hq
  have ne_home_tales := fr_ne h_home hq
  have ne_kin_tales := fr_ne h_kin hq
  have ne_now_tales := fr_ne h_now hq
  have ne_was_tales := fr_ne h_was hq
  have ne_kept_tales := fr_ne h_kept hq
  have ne_isKept_tales := fr_ne h_isKept hq
  have ne_text_tales := fr_ne h_text hq
  have ne_readPath_tales := fr_ne h_readPath hq
  have ne_readHome_tales := fr_ne h_readHome hq
  have ne_readKin_tales := fr_ne h_readKin hq
  have ne_read_tales := fr_ne h_read hq
  have ne_sight_tales := fr_ne h_sight hq
  have ne_went_tales := fr_ne h_went hq
  have n0_tales := hE.nn (fun _ z => (by rw [z]; exact ⟨_, h_a⟩)) hq
  have hZ := fun q (hq : w28 q = none) => hE.nn (fun _ z => (by rw [z]; exact ⟨_, h_a⟩)) hq
  have h_a := hs _ _ (fun z => z) h_a
  have h_path := hs _ _ (fun z => z) h_path
  have h_home := hs _ _ (fun z => z) h_home
  have h_kin := hs _ _ (fun z => z) h_kin
  have h_now := hs _ _ (fun z => z) h_now
  have h_was := hs _ _ (fun z => z) h_was
  have h_kept := hs _ _ (fun z => z) h_kept
  have h_isKept := hs _ _ (fun z => z) h_isKept
  have h_text := hs _ _ (fun z => z) h_text
  have h_readPath := hs _ _ (fun z => z) h_readPath
  have h_readHome := hs _ _ (fun z => z) h_readHome
  have h_readKin := hs _ _ (fun z => z) h_readKin
  have h_read := hs _ _ (fun z => z) h_read
  have h_sight := hs _ _ (fun z => z) h_sight
  have h_went := hs _ _ (fun z => z) h_went
  have hE := hE.frg hs (fun _ z => z.elim)
  have h_tales : w29 q_tales = some (.inl (g.2.2.1 1, 64, .inr (.inl (fun _ => 0)))) := t1
  have hD := hD.join (Al.of hs (fun _ z => z.elim)) (DN.one hq t1) hZ
  refine vv_putF hC (hI rfl) fp_X9_53 dX9_init_121 h_a rfl rfl (Nat.le_of_ble_eq_true rfl) (fun w30 t1 hs => ?_)
  have h_path := hs _ _ (fw_ao h_path h_a) h_path
  have h_home := hs _ _ (fw_ao h_home h_a) h_home
  have h_kin := hs _ _ (fw_ao h_kin h_a) h_kin
  have h_now := hs _ _ (fw_ao h_now h_a) h_now
  have h_was := hs _ _ (fw_ao h_was h_a) h_was
  have h_kept := hs _ _ (fw_ao h_kept h_a) h_kept
  have h_isKept := hs _ _ (fw_ao h_isKept h_a) h_isKept
  have h_text := hs _ _ (fw_ao h_text h_a) h_text
  have h_readPath := hs _ _ (fw_ao h_readPath h_a) h_readPath
  have h_readHome := hs _ _ (fw_ao h_readHome h_a) h_readHome
  have h_readKin := hs _ _ (fw_ao h_readKin h_a) h_readKin
  have h_read := hs _ _ (fw_ao h_read h_a) h_read
  have h_sight := hs _ _ (fw_ao h_sight h_a) h_sight
  have h_went := hs _ _ (fw_ao h_went h_a) h_went
  have h_tales := hs _ _ (fw_ao h_tales h_a) h_tales
  have hE := hE.frg hs (fun _ z => Or.inl z)
  have h_a : w30 a = some (.inr (9, [.int 0, .int 0, .int 0, .int 0, .ref q_path, .ref q_home, .ref q_kin, .ref q_now, .ref q_was, .int 0, .ref q_kept, .ref q_isKept, .ref q_text, .int 0, .int 0, .int 0, .int 0, .int 0, .ref q_readPath, .ref q_readHome, .ref q_readKin, .ref q_read, .ref q_sight, .int 0, .ref q_went, .ref q_tales, .null, .null, .null, .null, .long 0])) := t1
  have hD := hD.keep (Al.of hs (fun _ z => (by rw [z]; exact ⟨_, h_a⟩)))
  refine vv_aload_n hC 0 dX9_init_124 rfl rfl ?_
  refine vv_sipush (v := 729) hC dX9_init_125 (by decide) ?_
  refine vv_newaI (N := 729) hC lk_a_int dX9_init_128 (by decide) (by decide) (by decide) (Nat.le_of_ble_eq_true rfl) (Nat.le_of_ble_eq_true rfl) (fun q_tests w31 hq t1 hs => ?_)
  have ne_path_tests := fr_ne h_path hq
  have ne_home_tests := fr_ne h_home hq
  have ne_kin_tests := fr_ne h_kin hq
  have ne_now_tests := fr_ne h_now hq
  have ne_was_tests := fr_ne h_was hq
  have ne_kept_tests := fr_ne h_kept hq
  have ne_isKept_tests := fr_ne h_isKept hq
  have ne_text_tests := fr_ne h_text hq
  have ne_readPath_tests := fr_ne h_readPath hq
  have ne_readHome_tests := fr_ne h_readHome hq
  have ne_readKin_tests := fr_ne h_readKin hq
  have ne_read_tests := fr_ne h_read hq
  have ne_sight_tests := fr_ne h_sight hq
  have ne_went_tests := fr_ne h_went hq
  have ne_tales_tests := fr_ne h_tales hq
  have n0_tests := hE.nn (fun _ z => (by rw [z]; exact ⟨_, h_a⟩)) hq
  have hZ := fun q (hq : w30 q = none) => hE.nn (fun _ z => (by rw [z]; exact ⟨_, h_a⟩)) hq
  have h_a := hs _ _ (fun z => z) h_a
  have h_path := hs _ _ (fun z => z) h_path
  have h_home := hs _ _ (fun z => z) h_home
  have h_kin := hs _ _ (fun z => z) h_kin
  have h_now := hs _ _ (fun z => z) h_now
  have h_was := hs _ _ (fun z => z) h_was
  have h_kept := hs _ _ (fun z => z) h_kept
  have h_isKept := hs _ _ (fun z => z) h_isKept
  have h_text := hs _ _ (fun z => z) h_text
  have h_readPath := hs _ _ (fun z => z) h_readPath
  have h_readHome := hs _ _ (fun z => z) h_readHome
  have h_readKin := hs _ _ (fun z => z) h_readKin
  have h_read := hs _ _ (fun z => z) h_read
  have h_sight := hs _ _ (fun z => z) h_sight
  have h_went := hs _ _ (fun z => z) h_went
  have h_tales := hs _ _ (fun z => z) h_tales
  have hE := hE.frg hs (fun _ z => z.elim)
  have h_tests : w31 q_tests = some (.inl (g.2.2.1 0, 729, .inl (fun _ => 0))) := t1
  have hD := hD.join (Al.of hs (fun _ z => z.elim)) (DN.one hq t1) hZ
  refine vv_putF hC (hI rfl) fp_X9_57 dX9_init_130 h_a rfl rfl (Nat.le_of_ble_eq_true rfl) (fun w32 t1 hs => ?_)
  have h_path := hs _ _ (fw_ao h_path h_a) h_path
  have h_home := hs _ _ (fw_ao h_home h_a) h_home
  have h_kin := hs _ _ (fw_ao h_kin h_a) h_kin
  have h_now := hs _ _ (fw_ao h_now h_a) h_now
  have h_was := hs _ _ (fw_ao h_was h_a) h_was
  have h_kept := hs _ _ (fw_ao h_kept h_a) h_kept
  have h_isKept := hs _ _ (fw_ao h_isKept h_a) h_isKept
  have h_text := hs _ _ (fw_ao h_text h_a) h_text
  have h_readPath := hs _ _ (fw_ao h_readPath h_a) h_readPath
  have h_readHome := hs _ _ (fw_ao h_readHome h_a) h_readHome
  have h_readKin := hs _ _ (fw_ao h_readKin h_a) h_readKin
  have h_read := hs _ _ (fw_ao h_read h_a) h_read
  have h_sight := hs _ _ (fw_ao h_sight h_a) h_sight
  have h_went := hs _ _ (fw_ao h_went h_a) h_went
  have h_tales := hs _ _ (fw_ao h_tales h_a) h_tales
  have h_tests := hs _ _ (fw_ao h_tests h_a) h_tests
  have hE := hE.frg hs (fun _ z => Or.inl z)
  have h_a : w32 a = some (.inr (9, [.int 0, .int 0, .int 0, .int 0, .ref q_path, .ref q_home, .ref q_kin, .ref q_now, .ref q_was, .int 0, .ref q_kept, .ref q_isKept, .ref q_text, .int 0, .int 0, .int 0, .int 0, .int 0, .ref q_readPath, .ref q_readHome, .ref q_readKin, .ref q_read, .ref q_sight, .int 0, .ref q_went, .ref q_tales, .ref q_tests, .null, .null, .null, .long 0])) := t1
  have hD := hD.keep (Al.of hs (fun _ z => (by rw [z]; exact ⟨_, h_a⟩)))
  refine vv_aload_n hC 0 dX9_init_133 rfl rfl ?_
  refine vv_bipush (v := 6) hC dX9_init_134 (by decide) ?_
  refine vv_newaI (N := 6) hC lk_a_int dX9_init_136 (by decide) (by decide) (by decide) (Nat.le_of_ble_eq_true rfl) (Nat.le_of_ble_eq_true rfl) (fun q_votes w33 hq t1 hs => ?_)
  have ne_path_votes := fr_ne h_path hq
  have ne_home_votes := fr_ne h_home hq
  have ne_kin_votes := fr_ne h_kin hq
  have ne_now_votes := fr_ne h_now hq
  have ne_was_votes := fr_ne h_was hq
  have ne_kept_votes := fr_ne h_kept hq
  have ne_isKept_votes := fr_ne h_isKept hq
  have ne_text_votes := fr_ne h_text hq
  have ne_readPath_votes := fr_ne h_readPath hq
  have ne_readHome_votes := fr_ne h_readHome hq
  have ne_readKin_votes := fr_ne h_readKin hq
  have ne_read_votes := fr_ne h_read hq
  have ne_sight_votes := fr_ne h_sight hq
  have ne_went_votes := fr_ne h_went hq
  have ne_tales_votes := fr_ne h_tales hq
  have ne_tests_votes := fr_ne h_tests hq
  have n0_votes := hE.nn (fun _ z => (by rw [z]; exact ⟨_, h_a⟩)) hq
  have hZ := fun q (hq : w32 q = none) => hE.nn (fun _ z => (by rw [z]; exact ⟨_, h_a⟩)) hq
  have h_a := hs _ _ (fun z => z) h_a
  have h_path := hs _ _ (fun z => z) h_path
  have h_home := hs _ _ (fun z => z) h_home
  have h_kin := hs _ _ (fun z => z) h_kin
  have h_now := hs _ _ (fun z => z) h_now
  have h_was := hs _ _ (fun z => z) h_was
  have h_kept := hs _ _ (fun z => z) h_kept
  have h_isKept := hs _ _ (fun z => z) h_isKept
  have h_text := hs _ _ (fun z => z) h_text
  have h_readPath := hs _ _ (fun z => z) h_readPath
  have h_readHome := hs _ _ (fun z => z) h_readHome
  have h_readKin := hs _ _ (fun z => z) h_readKin
  have h_read := hs _ _ (fun z => z) h_read
  have h_sight := hs _ _ (fun z => z) h_sight
  have h_went := hs _ _ (fun z => z) h_went
  have h_tales := hs _ _ (fun z => z) h_tales
  have h_tests := hs _ _ (fun z => z) h_tests
  have hE := hE.frg hs (fun _ z => z.elim)
  have h_votes : w33 q_votes = some (.inl (g.2.2.1 0, 6, .inl (fun _ => 0))) := t1
  have hD := hD.join (Al.of hs (fun _ z => z.elim)) (DN.one hq t1) hZ
  refine vv_putF hC (hI rfl) fp_X9_60 dX9_init_138 h_a rfl rfl (Nat.le_of_ble_eq_true rfl) (fun w34 t1 hs => ?_)
  have h_path := hs _ _ (fw_ao h_path h_a) h_path
  have h_home := hs _ _ (fw_ao h_home h_a) h_home
  have h_kin := hs _ _ (fw_ao h_kin h_a) h_kin
  have h_now := hs _ _ (fw_ao h_now h_a) h_now
  have h_was := hs _ _ (fw_ao h_was h_a) h_was
  have h_kept := hs _ _ (fw_ao h_kept h_a) h_kept
  have h_isKept := hs _ _ (fw_ao h_isKept h_a) h_isKept
  have h_text := hs _ _ (fw_ao h_text h_a) h_text
  have h_readPath := hs _ _ (fw_ao h_readPath h_a) h_readPath
  have h_readHome := hs _ _ (fw_ao h_readHome h_a) h_readHome
  have h_readKin := hs _ _ (fw_ao h_readKin h_a) h_readKin
  have h_read := hs _ _ (fw_ao h_read h_a) h_read
  have h_sight := hs _ _ (fw_ao h_sight h_a) h_sight
  have h_went := hs _ _ (fw_ao h_went h_a) h_went
  have h_tales := hs _ _ (fw_ao h_tales h_a) h_tales
  have h_tests := hs _ _ (fw_ao h_tests h_a) h_tests
  have h_votes := hs _ _ (fw_ao h_votes h_a) h_votes
  have hE := hE.frg hs (fun _ z => Or.inl z)
  have h_a : w34 a = some (.inr (9, [.int 0, .int 0, .int 0, .int 0, .ref q_path, .ref q_home, .ref q_kin, .ref q_now, .ref q_was, .int 0, .ref q_kept, .ref q_isKept, .ref q_text, .int 0, .int 0, .int 0, .int 0, .int 0, .ref q_readPath, .ref q_readHome, .ref q_readKin, .ref q_read, .ref q_sight, .int 0, .ref q_went, .ref q_tales, .ref q_tests, .ref q_votes, .null, .null, .long 0])) := t1
  have hD := hD.keep (Al.of hs (fun _ z => (by rw [z]; exact ⟨_, h_a⟩)))
  refine vv_aload_n hC 0 dX9_init_141 rfl rfl ?_
  refine vv_bipush (v := 43) hC dX9_init_142 (by decide) ?_
  refine vv_newaI (N := 43) hC lk_a_int dX9_init_144 (by decide) (by decide) (by decide) (Nat.le_of_ble_eq_true rfl) (Nat.le_of_ble_eq_true rfl) (fun q_begun w35 hq t1 hs => ?_)
  have ne_path_begun := fr_ne h_path hq
  have ne_home_begun := fr_ne h_home hq
  have ne_kin_begun := fr_ne h_kin hq
  have ne_now_begun := fr_ne h_now hq
  have ne_was_begun := fr_ne h_was hq
  have ne_kept_begun := fr_ne h_kept hq
  have ne_isKept_begun := fr_ne h_isKept hq
  have ne_text_begun := fr_ne h_text hq
  have ne_readPath_begun := fr_ne h_readPath hq
  have ne_readHome_begun := fr_ne h_readHome hq
  have ne_readKin_begun := fr_ne h_readKin hq
  have ne_read_begun := fr_ne h_read hq
  have ne_sight_begun := fr_ne h_sight hq
  have ne_went_begun := fr_ne h_went hq
  have ne_tales_begun := fr_ne h_tales hq
  have ne_tests_begun := fr_ne h_tests hq
  have ne_votes_begun := fr_ne h_votes hq
  have n0_begun := hE.nn (fun _ z => (by rw [z]; exact ⟨_, h_a⟩)) hq
  have hZ := fun q (hq : w34 q = none) => hE.nn (fun _ z => (by rw [z]; exact ⟨_, h_a⟩)) hq
  have h_a := hs _ _ (fun z => z) h_a
  have h_path := hs _ _ (fun z => z) h_path
  have h_home := hs _ _ (fun z => z) h_home
  have h_kin := hs _ _ (fun z => z) h_kin
  have h_now := hs _ _ (fun z => z) h_now
  have h_was := hs _ _ (fun z => z) h_was
  have h_kept := hs _ _ (fun z => z) h_kept
  have h_isKept := hs _ _ (fun z => z) h_isKept
  have h_text := hs _ _ (fun z => z) h_text
  have h_readPath := hs _ _ (fun z => z) h_readPath
  have h_readHome := hs _ _ (fun z => z) h_readHome
  have h_readKin := hs _ _ (fun z => z) h_readKin
  have h_read := hs _ _ (fun z => z) h_read
  have h_sight := hs _ _ (fun z => z) h_sight
  have h_went := hs _ _ (fun z => z) h_went
  have h_tales := hs _ _ (fun z => z) h_tales
  have h_tests := hs _ _ (fun z => z) h_tests
  have h_votes := hs _ _ (fun z => z) h_votes
  have hE := hE.frg hs (fun _ z => z.elim)
  have h_begun : w35 q_begun = some (.inl (g.2.2.1 0, 43, .inl (fun _ => 0))) := t1
  have hD := hD.join (Al.of hs (fun _ z => z.elim)) (DN.one hq t1) hZ
  refine vv_putF hC (hI rfl) fp_X9_63 dX9_init_146 h_a rfl rfl (Nat.le_of_ble_eq_true rfl) (fun w36 t1 hs => ?_)
  have h_path := hs _ _ (fw_ao h_path h_a) h_path
  have h_home := hs _ _ (fw_ao h_home h_a) h_home
  have h_kin := hs _ _ (fw_ao h_kin h_a) h_kin
  have h_now := hs _ _ (fw_ao h_now h_a) h_now
  have h_was := hs _ _ (fw_ao h_was h_a) h_was
  have h_kept := hs _ _ (fw_ao h_kept h_a) h_kept
  have h_isKept := hs _ _ (fw_ao h_isKept h_a) h_isKept
  have h_text := hs _ _ (fw_ao h_text h_a) h_text
  have h_readPath := hs _ _ (fw_ao h_readPath h_a) h_readPath
  have h_readHome := hs _ _ (fw_ao h_readHome h_a) h_readHome
  have h_readKin := hs _ _ (fw_ao h_readKin h_a) h_readKin
  have h_read := hs _ _ (fw_ao h_read h_a) h_read
  have h_sight := hs _ _ (fw_ao h_sight h_a) h_sight
  have h_went := hs _ _ (fw_ao h_went h_a) h_went
  have h_tales := hs _ _ (fw_ao h_tales h_a) h_tales
  have h_tests := hs _ _ (fw_ao h_tests h_a) h_tests
  have h_votes := hs _ _ (fw_ao h_votes h_a) h_votes
  have h_begun := hs _ _ (fw_ao h_begun h_a) h_begun
  have hE := hE.frg hs (fun _ z => Or.inl z)
  have h_a : w36 a = some (.inr (9, [.int 0, .int 0, .int 0, .int 0, .ref q_path, .ref q_home, .ref q_kin, .ref q_now, .ref q_was, .int 0, .ref q_kept, .ref q_isKept, .ref q_text, .int 0, .int 0, .int 0, .int 0, .int 0, .ref q_readPath, .ref q_readHome, .ref q_readKin, .ref q_read, .ref q_sight, .int 0, .ref q_went, .ref q_tales, .ref q_tests, .ref q_votes, .ref q_begun, .null, .long 0])) := t1
  have hD := hD.keep (Al.of hs (fun _ z => (by rw [z]; exact ⟨_, h_a⟩)))
  refine vv_aload_n hC 0 dX9_init_149 rfl rfl ?_
  refine vv_bipush (v := 43) hC dX9_init_150 (by decide) ?_
  refine vv_newaI (N := 43) hC lk_a_int dX9_init_152 (by decide) (by decide) (by decide) (Nat.le_of_ble_eq_true rfl) (Nat.le_of_ble_eq_true rfl) (fun q_between w37 hq t1 hs => ?_)
  have ne_path_between := fr_ne h_path hq
  have ne_home_between := fr_ne h_home hq
  have ne_kin_between := fr_ne h_kin hq
  have ne_now_between := fr_ne h_now hq
  have ne_was_between := fr_ne h_was hq
  have ne_kept_between := fr_ne h_kept hq
  have ne_isKept_between := fr_ne h_isKept hq
  have ne_text_between := fr_ne h_text hq
  have ne_readPath_between := fr_ne h_readPath hq
  have ne_readHome_between := fr_ne h_readHome hq
  have ne_readKin_between := fr_ne h_readKin hq
  have ne_read_between := fr_ne h_read hq
  have ne_sight_between := fr_ne h_sight hq
  have ne_went_between := fr_ne h_went hq
  have ne_tales_between := fr_ne h_tales hq
  have ne_tests_between := fr_ne h_tests hq
  have ne_votes_between := fr_ne h_votes hq
  have ne_begun_between := fr_ne h_begun hq
  have n0_between := hE.nn (fun _ z => (by rw [z]; exact ⟨_, h_a⟩)) hq
  have hZ := fun q (hq : w36 q = none) => hE.nn (fun _ z => (by rw [z]; exact ⟨_, h_a⟩)) hq
  have h_a := hs _ _ (fun z => z) h_a
  have h_path := hs _ _ (fun z => z) h_path
  have h_home := hs _ _ (fun z => z) h_home
  have h_kin := hs _ _ (fun z => z) h_kin
  have h_now := hs _ _ (fun z => z) h_now
  have h_was := hs _ _ (fun z => z) h_was
  have h_kept := hs _ _ (fun z => z) h_kept
  have h_isKept := hs _ _ (fun z => z) h_isKept
  have h_text := hs _ _ (fun z => z) h_text
  have h_readPath := hs _ _ (fun z => z) h_readPath
  have h_readHome := hs _ _ (fun z => z) h_readHome
  have h_readKin := hs _ _ (fun z => z) h_readKin
  have h_read := hs _ _ (fun z => z) h_read
  have h_sight := hs _ _ (fun z => z) h_sight
  have h_went := hs _ _ (fun z => z) h_went
  have h_tales := hs _ _ (fun z => z) h_tales
  have h_tests := hs _ _ (fun z => z) h_tests
  have h_votes := hs _ _ (fun z => z) h_votes
  have h_begun := hs _ _ (fun z => z) h_begun
  have hE := hE.frg hs (fun _ z => z.elim)
  have h_between : w37 q_between = some (.inl (g.2.2.1 0, 43, .inl (fun _ => 0))) := t1
  have hD := hD.join (Al.of hs (fun _ z => z.elim)) (DN.one hq t1) hZ
  refine vv_putF hC (hI rfl) fp_X9_66 dX9_init_154 h_a rfl rfl (Nat.le_of_ble_eq_true rfl) (fun w38 t1 hs => ?_)
  have h_path := hs _ _ (fw_ao h_path h_a) h_path
  have h_home := hs _ _ (fw_ao h_home h_a) h_home
  have h_kin := hs _ _ (fw_ao h_kin h_a) h_kin
  have h_now := hs _ _ (fw_ao h_now h_a) h_now
  have h_was := hs _ _ (fw_ao h_was h_a) h_was
  have h_kept := hs _ _ (fw_ao h_kept h_a) h_kept
  have h_isKept := hs _ _ (fw_ao h_isKept h_a) h_isKept
  have h_text := hs _ _ (fw_ao h_text h_a) h_text
  have h_readPath := hs _ _ (fw_ao h_readPath h_a) h_readPath
  have h_readHome := hs _ _ (fw_ao h_readHome h_a) h_readHome
  have h_readKin := hs _ _ (fw_ao h_readKin h_a) h_readKin
  have h_read := hs _ _ (fw_ao h_read h_a) h_read
  have h_sight := hs _ _ (fw_ao h_sight h_a) h_sight
  have h_went := hs _ _ (fw_ao h_went h_a) h_went
  have h_tales := hs _ _ (fw_ao h_tales h_a) h_tales
  have h_tests := hs _ _ (fw_ao h_tests h_a) h_tests
  have h_votes := hs _ _ (fw_ao h_votes h_a) h_votes
  have h_begun := hs _ _ (fw_ao h_begun h_a) h_begun
  have h_between := hs _ _ (fw_ao h_between h_a) h_between
  have hE := hE.frg hs (fun _ z => Or.inl z)
  have h_a : w38 a = some (.inr (9, [.int 0, .int 0, .int 0, .int 0, .ref q_path, .ref q_home, .ref q_kin, .ref q_now, .ref q_was, .int 0, .ref q_kept, .ref q_isKept, .ref q_text, .int 0, .int 0, .int 0, .int 0, .int 0, .ref q_readPath, .ref q_readHome, .ref q_readKin, .ref q_read, .ref q_sight, .int 0, .ref q_went, .ref q_tales, .ref q_tests, .ref q_votes, .ref q_begun, .ref q_between, .long 0])) := t1
  have hD := hD.keep (Al.of hs (fun _ z => (by rw [z]; exact ⟨_, h_a⟩)))
  refine vv_vret hC hR rfl dX9_init_157 (Nat.le_of_ble_eq_true rfl) (Nat.le_of_ble_eq_true rfl) ?_
  refine ⟨rfl, fun i => lad (([q_between] ++ ([q_begun] ++ ([q_votes] ++ ([q_tests] ++ ([q_tales] ++ ([q_went] ++ ([q_sight] ++ ([q_read] ++ ([q_readKin] ++ ([q_readHome] ++ ([q_readPath] ++ ([q_text] ++ ([q_isKept] ++ ([q_kept] ++ ([q_was] ++ ([q_now] ++ ([q_kin] ++ ([q_home] ++ ([q_path] ++ []))))))))))))))))))) ++ [a]) (sgB i), fun i j hi hj z => sgB_inj i j hi hj (lad_inj ?_ z), rfl, ?_, ?_, hE⟩
  · exact List.nodup_append.mpr ⟨hD.1, (by simp), fun x hx y hy z => by rw [List.mem_singleton.mp hy] at z; subst z; have := (hD.2 _ hx).1; rw [h_a0] at this; cases this⟩
  · exact ⟨h_a, h_path, h_home, h_kin, h_now, h_was, h_kept, h_isKept, h_text, h_readPath, h_readHome, h_readKin, h_read, h_sight, h_went, h_tales, h_tests, h_votes, h_begun, h_between⟩
  · intro i hi h0
    have hm : sgB i < 19 := sgB_u i hi h0
    exact lad_none hD (Nat.lt_of_lt_of_eq hm (by simp))
def f_X8_fault (tl : Nat) (bytes : Nat → Int32) : Int32 := (f_X3_read 0 (-9) (-9) tl bytes zVi).1
set_option maxHeartbeats 8000000 in
set_option maxRecDepth 100000 in
theorem c_X8_fault (g : GT) (w0 : Wd) (A : Nat → Nat) (vi : Nat) (kS : Int32) (seed : Int64) (tl : Nat) (bytes : Nat → Int32) (h_who : w0 (A 0) = some (.inr (8, cWh A vi (kS, seed)))) (h_text : w0 (A 1) = some (.inr (6, cTx (A 2) tl))) (h_bytes : w0 (A 2) = some (.inl (g.2.2.1 2, 96, .inl (bytes)))) : CT g yX8_fault cX8_fault 1 (some .int) 7 180 2 16 w0 [.ref (A 0)] (fun r w2 => r = some (.int (f_X8_fault tl bytes)) ∧ wE (fun _ => False) w0 w2) := by
  refine CT.of (own := RX8) (by decide +kernel) rfl (Nat.le_of_ble_eq_true rfl) (fun X hC hR hI => ?_)
  show V g X 1 w0 0 0 0 [(0, .ref (A 0))] []
  have hE : wE (fun _ => False) w0 w0 := wE.refl
  refine vv_new (ci := 3) (fs := [.null, .null, .int 0, .int 0, .int 0]) hC fpcX3 rfl lk_o_X8_84 lk_b_X3 lk_z_X3 dX8_fault_0 nfsX3 (Nat.le_of_ble_eq_true rfl) (Nat.le_of_ble_eq_true rfl) (fun q_rd w1 hq t1 hs => ?_)
  have n0_rd := hE.nn (fun _ z => z.elim) hq
  have h_who := hs _ _ (fun z => z) h_who
  have h_text := hs _ _ (fun z => z) h_text
  have h_bytes := hs _ _ (fun z => z) h_bytes
  have hE := hE.frg hs (fun _ z => z.elim)
  have h_rd : w1 q_rd = some (.inr (3, [.null, .null, .int 0, .int 0, .int 0])) := t1
  refine vv_dup hC dX8_fault_3 rfl ?_
  refine vv_aload_n hC 0 dX8_fault_4 rfl rfl ?_
  refine vv_get (v := .ref (A 1)) hC fl_X8_10 dX8_fault_5 h_who rfl ?_
  refine vv_callI hC dX8_fault_8 md_X3_init lk_m_X8_86 lk_i_X3_init rfl (As := [.ref (A 1)]) (rest := [.ref q_rd]) (c_X3_init g w1 (A 1) q_rd h_rd) rfl rfl (Nat.le_of_ble_eq_true rfl) ⟨Nat.le_of_ble_eq_true rfl, Nat.le_of_ble_eq_true rfl, Nat.le_of_ble_eq_true rfl, Nat.le_of_ble_eq_true rfl⟩ (fun r w9 hq => ?_)
  obtain ⟨rfl, q_rv, dn, t1, u_rv, hs⟩ := hq
  obtain ⟨w2, rfl⟩ : ∃ z, z = w9 := ⟨_, rfl⟩
  have nw_rv : w1 q_rv = none := (dn.2 q_rv (by simp)).1
  have n0_rv := hE.nn (fun _ z => z.elim) nw_rv
  have h_who := hs _ _ (fw_oo h_who h_rd (by decide)) h_who
  have h_text := hs _ _ (fw_oo h_text h_rd (by decide)) h_text
  have h_bytes := hs _ _ (fw_ao h_bytes h_rd) h_bytes
  have hE := hE.frg hs (fun _ z => Or.inr (by rw [z]; exact n0_rd))
  have h_rd : w2 q_rd = some (.inr (3, cRd (A 1) q_rv (0, -9, -9))) := t1
  have h_rv : w2 q_rv = some (.inr (7, cVi zVi)) := u_rv
  show V g X 1 w2 2 16 11 [(0, .ref (A 0))] [.ref q_rd]
  refine vv_callV hC dX8_fault_11 md_X3_read lk_m_X8_89 lk_i_X3_read lk_s_X3_read h_rd rfl (As := []) (rest := []) (c_X3_read g w2 q_rd (A 1) q_rv (A 2) 0 (-9) (-9) tl bytes zVi (by decide) (by decide) h_rd h_text h_bytes h_rv) rfl rfl (Nat.le_of_ble_eq_true rfl) ⟨Nat.le_of_ble_eq_true rfl, Nat.le_of_ble_eq_true rfl, Nat.le_of_ble_eq_true rfl, Nat.le_of_ble_eq_true rfl⟩ (fun r w9 hq => ?_)
  obtain ⟨rfl, t1, t2, hs⟩ := hq
  obtain ⟨w3, rfl⟩ : ∃ z, z = w9 := ⟨_, rfl⟩
  have h_who := hs _ _ (fun z => z.elim (fw_oo h_who h_rd (by decide)) (fw_oo h_who h_rv (by decide))) h_who
  have h_text := hs _ _ (fun z => z.elim (fw_oo h_text h_rd (by decide)) (fw_oo h_text h_rv (by decide))) h_text
  have h_bytes := hs _ _ (fun z => z.elim (fw_ao h_bytes h_rd) (fw_ao h_bytes h_rv)) h_bytes
  have hE := hE.frg hs (fun _ z => z.elim (fun z => Or.inr (by rw [z]; exact n0_rd)) (fun z => Or.inr (by rw [z]; exact n0_rv)))
  have h_rd := t1
  have h_rv := t2
  show V g X 1 w3 2 16 14 [(0, .ref (A 0))] [.int (f_X8_fault tl bytes)]
  refine vv_iret hC hR rfl dX8_fault_14 (Nat.le_of_ble_eq_true rfl) (Nat.le_of_ble_eq_true rfl) ?_
  exact ⟨rfl, hE⟩
def f_X8_village (tl : Nat) (bytes : Nat → Int32) : Int32 := if f_X8_fault tl bytes = -9 then 10 * nI (gVi_houses (f_X3_read 0 (-9) (-9) tl bytes zVi).2.2.2.2) + nI (gVi_people (f_X3_read 0 (-9) (-9) tl bytes zVi).2.2.2.2) else -3
set_option maxHeartbeats 8000000 in
set_option maxRecDepth 100000 in
theorem c_X8_village (g : GT) (w0 : Wd) (A : Nat → Nat) (vi : Nat) (kS : Int32) (seed : Int64) (tl : Nat) (bytes : Nat → Int32) (now : TN) (st ct : Nat) (h_who : w0 (A 0) = some (.inr (8, cWh A vi (kS, seed)))) (h_text : w0 (A 1) = some (.inr (6, cTx (A 2) tl))) (h_bytes : w0 (A 2) = some (.inl (g.2.2.1 2, 96, .inl (bytes)))) (h_now : w0 (A 3) = some (.inr (2, cN now))) (h_acts : w0 (A 5) = some (.inr (0, cAc (A 6) (st, ct)))) : CT g yX8_village cX8_village 2 (some .int) 7 180 2 16 w0 [.ref (A 0)] (fun r w2 => r = some (.int (f_X8_village tl bytes)) ∧ ((¬ f_X8_fault tl bytes = -9 ∧ wE (fun _ => False) w0 w2) ∨ (f_X8_fault tl bytes = -9 ∧ ∃ q, w0 q = none ∧ w2 (A 0) = some (.inr (8, cWh A q (0, seed))) ∧ w2 q = some (.inr (7, cVi (f_X3_read 0 (-9) (-9) tl bytes zVi).2.2.2.2)) ∧ w2 (A 3) = some (.inr (2, cN (f_X2_begin now (f_X3_read 0 (-9) (-9) tl bytes zVi).2.2.2.2))) ∧ w2 (A 5) = some (.inr (0, cAc (A 6) (st, 0))) ∧ wE (fun q => q = (A 0) ∨ q = (A 3) ∨ q = (A 5)) w0 w2))) := by
  refine CT.of (own := RX8) (by decide +kernel) rfl (Nat.le_of_ble_eq_true rfl) (fun X hC hR hI => ?_)
  show V g X 2 w0 0 0 0 [(0, .ref (A 0))] []
  have hE : wE (fun _ => False) w0 w0 := wE.refl
  refine vv_new (ci := 3) (fs := [.null, .null, .int 0, .int 0, .int 0]) hC fpcX3 rfl lk_o_X8_84 lk_b_X3 lk_z_X3 dX8_village_0 nfsX3 (Nat.le_of_ble_eq_true rfl) (Nat.le_of_ble_eq_true rfl) (fun q_rd w1 hq t1 hs => ?_)
  have n0_rd := hE.nn (fun _ z => z.elim) hq
  have h_who := hs _ _ (fun z => z) h_who
  have h_text := hs _ _ (fun z => z) h_text
  have h_bytes := hs _ _ (fun z => z) h_bytes
  have h_now := hs _ _ (fun z => z) h_now
  have h_acts := hs _ _ (fun z => z) h_acts
  have hE := hE.frg hs (fun _ z => z.elim)
  have h_rd : w1 q_rd = some (.inr (3, [.null, .null, .int 0, .int 0, .int 0])) := t1
  refine vv_dup hC dX8_village_3 rfl ?_
  refine vv_aload_n hC 0 dX8_village_4 rfl rfl ?_
  refine vv_get (v := .ref (A 1)) hC fl_X8_10 dX8_village_5 h_who rfl ?_
  refine vv_callI hC dX8_village_8 md_X3_init lk_m_X8_86 lk_i_X3_init rfl (As := [.ref (A 1)]) (rest := [.ref q_rd]) (c_X3_init g w1 (A 1) q_rd h_rd) rfl rfl (Nat.le_of_ble_eq_true rfl) ⟨Nat.le_of_ble_eq_true rfl, Nat.le_of_ble_eq_true rfl, Nat.le_of_ble_eq_true rfl, Nat.le_of_ble_eq_true rfl⟩ (fun r w9 hq => ?_)
  obtain ⟨rfl, q_rv, dn, t1, u_rv, hs⟩ := hq
  obtain ⟨w2, rfl⟩ : ∃ z, z = w9 := ⟨_, rfl⟩
  have nw_rv : w1 q_rv = none := (dn.2 q_rv (by simp)).1
  have n0_rv := hE.nn (fun _ z => z.elim) nw_rv
  have h_who := hs _ _ (fw_oo h_who h_rd (by decide)) h_who
  have h_text := hs _ _ (fw_oo h_text h_rd (by decide)) h_text
  have h_bytes := hs _ _ (fw_ao h_bytes h_rd) h_bytes
  have h_now := hs _ _ (fw_oo h_now h_rd (by decide)) h_now
  have h_acts := hs _ _ (fw_oo h_acts h_rd (by decide)) h_acts
  have hE := hE.frg hs (fun _ z => Or.inr (by rw [z]; exact n0_rd))
  have h_rd : w2 q_rd = some (.inr (3, cRd (A 1) q_rv (0, -9, -9))) := t1
  have h_rv : w2 q_rv = some (.inr (7, cVi zVi)) := u_rv
  show V g X 2 w2 2 16 11 [(0, .ref (A 0))] [.ref q_rd]
  refine vv_astore_n (lv2 := [(1, .ref q_rd), (0, .ref (A 0))]) hC dX8_village_11 rfl (by decide) rfl ?_
  refine vv_aload_n hC 0 dX8_village_12 rfl rfl ?_
  refine vv_callV hC dX8_village_13 md_X3_read lk_m_X8_89 lk_i_X3_read lk_s_X3_read h_rd rfl (As := []) (rest := []) (c_X3_read g w2 q_rd (A 1) q_rv (A 2) 0 (-9) (-9) tl bytes zVi (by decide) (by decide) h_rd h_text h_bytes h_rv) rfl rfl (Nat.le_of_ble_eq_true rfl) ⟨Nat.le_of_ble_eq_true rfl, Nat.le_of_ble_eq_true rfl, Nat.le_of_ble_eq_true rfl, Nat.le_of_ble_eq_true rfl⟩ (fun r w9 hq => ?_)
  obtain ⟨rfl, t1, t2, hs⟩ := hq
  obtain ⟨w3, rfl⟩ : ∃ z, z = w9 := ⟨_, rfl⟩
  have h_who := hs _ _ (fun z => z.elim (fw_oo h_who h_rd (by decide)) (fw_oo h_who h_rv (by decide))) h_who
  have h_text := hs _ _ (fun z => z.elim (fw_oo h_text h_rd (by decide)) (fw_oo h_text h_rv (by decide))) h_text
  have h_bytes := hs _ _ (fun z => z.elim (fw_ao h_bytes h_rd) (fw_ao h_bytes h_rv)) h_bytes
  have h_now := hs _ _ (fun z => z.elim (fw_oo h_now h_rd (by decide)) (fw_oo h_now h_rv (by decide))) h_now
  have h_acts := hs _ _ (fun z => z.elim (fw_oo h_acts h_rd (by decide)) (fw_oo h_acts h_rv (by decide))) h_acts
  have hE := hE.frg hs (fun _ z => z.elim (fun z => Or.inr (by rw [z]; exact n0_rd)) (fun z => Or.inr (by rw [z]; exact n0_rv)))
  have h_rd := t1
  have h_rv := t2
  show V g X 2 w3 2 16 16 [(1, .ref q_rd), (0, .ref (A 0))] [.int (f_X8_fault tl bytes)]
  refine vv_bipush (v := (-9)) hC dX8_village_16 (by decide) ?_
  refine vv_icmp_eq hC 24 dX8_village_18 (by decide) (fun c1 => ?_) (fun c1 => ?_)
  · have c1 : f_X8_fault tl bytes = -9 := c1
    have hE : wE (fun q => q = (A 0) ∨ q = (A 3) ∨ q = (A 5)) w0 w3 := hE.mono (fun _ z => z.elim)
    refine vv_aload_n hC 1 dX8_village_24 rfl rfl ?_
    refine vv_aload_n hC 0 dX8_village_25 rfl rfl ?_
    refine vv_getN (v := .ref q_rv) hC fl_X8_93 dX8_village_26 h_rd rfl ?_
    refine vv_put hC fp_X8_19 dX8_village_29 h_who rfl rfl (Nat.le_of_ble_eq_true rfl) (fun w4 t1 hs => ?_)
    have h_text := hs _ _ (fw_oo h_text h_who (by decide)) h_text
    have h_bytes := hs _ _ (fw_ao h_bytes h_who) h_bytes
    have h_now := hs _ _ (fw_oo h_now h_who (by decide)) h_now
    have h_acts := hs _ _ (fw_oo h_acts h_who (by decide)) h_acts
    have h_rd := hs _ _ (fw_oo h_rd h_who (by decide)) h_rd
    have h_rv := hs _ _ (fw_oo h_rv h_who (by decide)) h_rv
    have hE := hE.frg hs (fun _ z => Or.inl (Or.inl z))
    have h_who : w4 (A 0) = some (.inr (8, cWh A q_rv (kS, seed))) := t1
    refine vv_aload_n hC 1 dX8_village_32 rfl rfl ?_
    refine vv_get (v := .ref (A 3)) hC fl_X8_26 dX8_village_33 h_who rfl ?_
    refine vv_aload_n hC 1 dX8_village_36 rfl rfl ?_
    refine vv_get (v := .ref q_rv) hC fl_X8_19 dX8_village_37 h_who rfl ?_
    refine vv_callV hC dX8_village_40 md_X2_begin lk_m_X8_94 lk_i_X2_begin lk_s_X2_begin h_now rfl (As := [.ref q_rv]) (rest := []) (c_X2_begin g w4 (A 3) q_rv now (f_X3_read 0 (-9) (-9) tl bytes zVi).2.2.2.2 h_now h_rv) rfl rfl (Nat.le_of_ble_eq_true rfl) ⟨Nat.le_of_ble_eq_true rfl, Nat.le_of_ble_eq_true rfl, Nat.le_of_ble_eq_true rfl, Nat.le_of_ble_eq_true rfl⟩ (fun r w9 hq => ?_)
    obtain ⟨rfl, t1, hs⟩ := hq
    obtain ⟨w5, rfl⟩ : ∃ z, z = w9 := ⟨_, rfl⟩
    have h_who := hs _ _ (fw_oo h_who h_now (by decide)) h_who
    have h_text := hs _ _ (fw_oo h_text h_now (by decide)) h_text
    have h_bytes := hs _ _ (fw_ao h_bytes h_now) h_bytes
    have h_acts := hs _ _ (fw_oo h_acts h_now (by decide)) h_acts
    have h_rd := hs _ _ (fw_oo h_rd h_now (by decide)) h_rd
    have h_rv := hs _ _ (fw_oo h_rv h_now (by decide)) h_rv
    have hE := hE.frg hs (fun _ z => Or.inl (Or.inr (Or.inl z)))
    have h_now : w5 (A 3) = some (.inr (2, cN (f_X2_begin now (f_X3_read 0 (-9) (-9) tl bytes zVi).2.2.2.2))) := t1
    show V g X 2 w5 2 16 43 [(1, .ref q_rd), (0, .ref (A 0))] []
    refine vv_aload_n hC 1 dX8_village_43 rfl rfl ?_
    refine vv_get (v := .ref (A 5)) hC fl_X8_36 dX8_village_44 h_who rfl ?_
    refine vv_callV hC dX8_village_47 md_X0_clear lk_m_X8_98 lk_i_X0_clear lk_s_X0_clear h_acts rfl (As := []) (rest := []) (c_X0_clear g w5 (A 5) (A 6) st ct h_acts) rfl rfl (Nat.le_of_ble_eq_true rfl) ⟨Nat.le_of_ble_eq_true rfl, Nat.le_of_ble_eq_true rfl, Nat.le_of_ble_eq_true rfl, Nat.le_of_ble_eq_true rfl⟩ (fun r w9 hq => ?_)
    obtain ⟨rfl, t1, hs⟩ := hq
    obtain ⟨w6, rfl⟩ : ∃ z, z = w9 := ⟨_, rfl⟩
    have h_who := hs _ _ (fw_oo h_who h_acts (by decide)) h_who
    have h_text := hs _ _ (fw_oo h_text h_acts (by decide)) h_text
    have h_bytes := hs _ _ (fw_ao h_bytes h_acts) h_bytes
    have h_now := hs _ _ (fw_oo h_now h_acts (by decide)) h_now
    have h_rd := hs _ _ (fw_oo h_rd h_acts (by decide)) h_rd
    have h_rv := hs _ _ (fw_oo h_rv h_acts (by decide)) h_rv
    have hE := hE.frg hs (fun _ z => Or.inl (Or.inr (Or.inr z)))
    have h_acts : w6 (A 5) = some (.inr (0, cAc (A 6) (st, 0))) := t1
    show V g X 2 w6 2 16 50 [(1, .ref q_rd), (0, .ref (A 0))] []
    refine vv_aload_n hC 1 dX8_village_50 rfl rfl ?_
    refine vv_iconst (v := 0) hC dX8_village_51 (by decide) ?_
    refine vv_put hC fp_X8_44 dX8_village_52 h_who rfl rfl (Nat.le_of_ble_eq_true rfl) (fun w7 t1 hs => ?_)
    have h_text := hs _ _ (fw_oo h_text h_who (by decide)) h_text
    have h_bytes := hs _ _ (fw_ao h_bytes h_who) h_bytes
    have h_now := hs _ _ (fw_oo h_now h_who (by decide)) h_now
    have h_acts := hs _ _ (fw_oo h_acts h_who (by decide)) h_acts
    have h_rd := hs _ _ (fw_oo h_rd h_who (by decide)) h_rd
    have h_rv := hs _ _ (fw_oo h_rv h_who (by decide)) h_rv
    have hE := hE.frg hs (fun _ z => Or.inl (Or.inl z))
    have h_who : w7 (A 0) = some (.inr (8, cWh A q_rv (0, seed))) := t1
    refine vv_bipush (v := 10) hC dX8_village_55 (by decide) ?_
    refine vv_aload_n hC 1 dX8_village_57 rfl rfl ?_
    refine vv_get (v := .ref q_rv) hC fl_X8_19 dX8_village_58 h_who rfl ?_
    refine vv_getN (v := .int (nI (gVi_houses (f_X3_read 0 (-9) (-9) tl bytes zVi).2.2.2.2))) hC fl_X8_101 dX8_village_61 h_rv rfl ?_
    refine vv_imul hC dX8_village_64 ?_
    refine vv_aload_n hC 1 dX8_village_65 rfl rfl ?_
    refine vv_get (v := .ref q_rv) hC fl_X8_19 dX8_village_66 h_who rfl ?_
    refine vv_getN (v := .int (nI (gVi_people (f_X3_read 0 (-9) (-9) tl bytes zVi).2.2.2.2))) hC fl_X8_104 dX8_village_69 h_rv rfl ?_
    refine vv_iadd hC dX8_village_72 ?_
    refine vv_iret hC hR rfl dX8_village_73 (Nat.le_of_ble_eq_true rfl) (Nat.le_of_ble_eq_true rfl) ?_
    exact ⟨by simp only [f_X8_village, if_pos c1], Or.inr ⟨c1, q_rv, n0_rv, h_who, h_rv, h_now, h_acts, hE⟩⟩
  · have c1 : ¬ f_X8_fault tl bytes = -9 := c1
    refine vv_bipush (v := (-3)) hC dX8_village_21 (by decide) ?_
    refine vv_iret hC hR rfl dX8_village_23 (Nat.le_of_ble_eq_true rfl) (Nat.le_of_ble_eq_true rfl) ?_
    exact ⟨by simp only [f_X8_village, if_neg c1], Or.inl ⟨c1, hE⟩⟩
