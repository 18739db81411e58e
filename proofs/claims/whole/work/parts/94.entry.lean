/-! from the law's entry to a world -/
theorem arr_known {ws : List Cond} {s : State} {args : Array Value} {ty : FieldType} (hts : ∀ w ∈ ws, w.before args s = true) (h : Cond.arrayClass ty ∈ ws) : ∃ cA, ArrOfT s cA ty ∧ s.vm.findClass ("[" ++ ty.toString) = some cA := by
  obtain ⟨cA, kA, comp, h1, h2, h3⟩ := Cond.arrayClass_spec (hts _ h)
  exact ⟨cA, fun n z => ⟨fun k h => (by cases h), kA, h2, comp, h3⟩, h1⟩
theorem fwN_tabs {w : Cond} (h : fwNest w = true) : w.onTables = true := by
  cases w <;> first | rfl | (simp [fwNest] at h)
theorem entry_K {p : Program} {s : State} {m : MethodId} {meth : Method} {c : Code} {b L : Nat} {xs : Nat → Int32} (C0 : lw_At p s m meth c b L xs) : ∃ (G : va_G) (T : Nat → ClassId), ∀ l : Launch, fwK (l, G, T, s.heap.size) s := by
  obtain ⟨hx, hb, hr, hml, hown, hts, hX, hbl, hlocks, hgv⟩ := C0
  have htw : ∀ w ∈ fwW, w.before #[Value.ref b] s = true := fun w hw => hts w (List.mem_filter.mp hw).1
  obtain ⟨c0, i0, k0⟩ := u_known (C := RX0) (T := TX0) (N := 3) (n := 3) htw inWX0 (htw _ lk_b_X0)
  obtain ⟨c1, i1, k1⟩ := u_known (C := RX1) (T := TX1) (N := 2) (n := 2) htw inWX1 (htw _ lk_b_X1)
  obtain ⟨c2, i2, k2⟩ := u_known (C := RX2) (T := TX2) (N := 10) (n := 10) htw inWX2 (htw _ lk_b_X2)
  obtain ⟨c3, i3, k3⟩ := u_known (C := RX3) (T := TX3) (N := 5) (n := 5) htw inWX3 (htw _ lk_b_X3)
  obtain ⟨c4, i4, k4⟩ := u_known (C := RX4) (T := TX4) (N := 5) (n := 5) htw inWX4 (htw _ lk_b_X4)
  obtain ⟨c5, i5, k5⟩ := u_known (C := RX5) (T := TX5) (N := 7) (n := 7) htw inWX5 (htw _ lk_b_X5)
  obtain ⟨c6, i6, k6⟩ := u_known (C := RX6) (T := TX6) (N := 2) (n := 2) htw inWX6 (htw _ lk_b_X6)
  obtain ⟨c7, i7, k7⟩ := u_known (C := RX7) (T := TX7) (N := 11) (n := 11) htw inWX7 (htw _ lk_b_X7)
  obtain ⟨c8, i8, k8⟩ := u_known (C := RX8) (T := TX8) (N := 11) (n := 11) htw inWX8 (htw _ lk_b_X8)
  obtain ⟨c9, i9, k9⟩ := u_known (C := RX9) (T := TX9) (N := 31) (n := 31) htw inWX9 (htw _ lk_b_X9)
  obtain ⟨dC, dI, hKc⟩ : ∃ (dC : Nat → ClassId) (dI : Nat → Nat → Nat), ∀ (k : Nat) (q : vw_C), vwCl[k]? = some q → u_Kn s q.1 q.2.1 q.2.2 (dC k) (dI k) := by
    refine ⟨fun k => [c0, c1, c2, c3, c4, c5, c6, c7, c8, c9].getD k c0, fun k => [i0, i1, i2, i3, i4, i5, i6, i7, i8, i9].getD k i0, ?_⟩
    intro k q hq
    match k, hq with
    | 0, hq => cases hq; exact k0
    | 1, hq => cases hq; exact k1
    | 2, hq => cases hq; exact k2
    | 3, hq => cases hq; exact k3
    | 4, hq => cases hq; exact k4
    | 5, hq => cases hq; exact k5
    | 6, hq => cases hq; exact k6
    | 7, hq => cases hq; exact k7
    | 8, hq => cases hq; exact k8
    | 9, hq => cases hq; exact k9
    | k + 10, hq => simp [vwCl] at hq
  obtain ⟨t0, a0, n0⟩ := arr_known htw lk_a_int
  obtain ⟨t1, a1, n1⟩ := arr_known htw lk_a_long
  obtain ⟨t2, a2, n2⟩ := arr_known htw lk_a_byte
  obtain ⟨t3, a3, n3⟩ := arr_known htw lk_a_boolean
  have hov := hts _ lk_v
  obtain ⟨comp, t4, kA, e1, e2, e3, e4, e5⟩ := Cond.arrayOver_spec hov
  have a4 : ArrOfT s t4 (.object RX2) := fun n z => ⟨fun k h => (by cases h), kA, e3, comp, e4⟩
  refine ⟨(dC, dI), fun k => [t0, t1, t2, t3, t4].getD k t0, fun l => ⟨⟨hKc, ?_⟩, fun w hw => ?_, va_AO.of hov⟩⟩
  · intro k q hq
    match k, hq with
    | 0, hq => cases hq; exact ⟨a0, n0⟩
    | 1, hq => cases hq; exact ⟨a1, n1⟩
    | 2, hq => cases hq; exact ⟨a2, n2⟩
    | 3, hq => cases hq; exact ⟨a3, n3⟩
    | 4, hq => cases hq; exact ⟨a4, kA, comp, e3, e4, e1, e5⟩
    | k + 5, hq => simp [fwT] at hq
  · exact va_Nw.of (fwN_tabs (List.mem_filter.mp hw).2) (hts w (List.mem_filter.mp hw).1)
/-- the law's own context -/
theorem entry_C {p : Program} {l : Launch} {e : Env} {s : State} {m : MethodId} {below : List Frame} {meth : Method} {c : Code} {b L : Nat} {xs : Nat → Int32} {Z : State → Prop} (C0 : lw_At p s m meth c b L xs) {G : va_G} {T : Nat → ClassId} (hK : fwK (l, G, T, s.heap.size) s) : Cx (l, G, T, s.heap.size) (p, l, e, room_1, s, m, #[Value.ref b], below, meth, c, Z) RL cL_law 4 ret room_1 := by
  obtain ⟨hx, hb, hr, hml, hown, hts, hX, hbl, hlocks, hgv⟩ := C0
  exact ⟨rfl, rfl, hx, hb, hml, hown, fun w hw => hts w (List.mem_filter.mp hw).1, hK, hr, hlocks, Nat.le_refl _⟩
/-- the script's rows -/
def SCR (X : CtxT) (b L : Nat) (xs : Nat → Int32) : Prop := match X with
  | (_, _, _, _, s, _, _, _, _, _, _) => va_X b L xs s s.heap ∧ b < s.heap.size
section ROWL
variable {g : GT} {X : CtxT} {nL : Nat} {w : Wd} {k n pc : Nat} {lv : List (Nat × Value)} {st : List Value} {own : String} {cc : ByteArray} {rt : Option FieldType} {rm : Room}
theorem vv_sld (hC : Cx g X own cc nL rt rm) {b L : Nat} {xs : Nat → Int32} (hX : SCR X b L xs) (hg : b < gB g) (i : Nat) (hi : i < L) (h31 : i < 2147483648) (hdg : decode cc pc = .ok (.iaload, 1)) (kk : V g X nL w k n (pc + 1) lv (.int (xs i) :: st)) : V g X nL w k n pc lv (.int (nI i) :: .ref b :: st) := by
  obtain ⟨p, l, e, R, s, m, args, below, meth, c, Q⟩ := X
  obtain ⟨rfl, rfl, hx, hb, hml, hown, hts, hK, hrt, hlocks, hbs⟩ := hC
  intro H locs ls h1 h2 h3
  refine va_sld hx hb hX.1 hX.2 (Nat.not_le.mpr hg) h2 ?_ hdg ?_
  · intro z
    rcases z with z | z
    · exact nI_neg h31 z
    · rw [nI_cl (by omega)] at z; omega
  · rw [nI_cl (by omega)]; exact kk H locs ls h1 h2 h3
theorem vv_slen (hC : Cx g X own cc nL rt rm) {b L : Nat} {xs : Nat → Int32} (hX : SCR X b L xs) (hg : b < gB g) (hdg : decode cc pc = .ok (.arraylength, 1)) (kk : V g X nL w k n (pc + 1) lv (.int (nI L) :: st)) : V g X nL w k n pc lv (.ref b :: st) := by
  obtain ⟨p, l, e, R, s, m, args, below, meth, c, Q⟩ := X
  obtain ⟨rfl, rfl, hx, hb, hml, hown, hts, hK, hrt, hlocks, hbs⟩ := hC
  intro H locs ls h1 h2 h3
  exact va_slen hx hb hX.1 hX.2 (Nat.not_le.mpr hg) h2 hdg (kk H locs ls h1 h2 h3)
end ROWL
/-- the law's end -/
theorem law_end {p : Program} {l : Launch} {e : Env} {s : State} {m : MethodId} {below : List Frame} {meth : Method} {c : Code} {b L : Nat} {xs : Nat → Int32} (C0 : lw_At p s m meth c b L xs) {G : va_G} {T : Nat → ClassId} {w : Wd} {k n : Nat} (hk : k ≤ 600000) (hn : n ≤ 7302250) {lv : List (Nat × Value)} : V (l, G, T, s.heap.size) (p, l, e, room_1, s, m, #[Value.ref b], below, meth, c, lw_Z below #[Value.ref b] s) 4 w k n 1229 lv [.int 1] := by
  obtain ⟨hx, hb, hr, hml, hown, hts, hX, hbl, hlocks, hgv⟩ := C0
  intro H locs ls h1 h2 h3
  refine W.widen (k := 600000) (n := 7302250) hk hn ?_
  refine va_forget (fun q hq => h2.2.2 q hq) ?_
  exact lw_ret hx hb hr hlocks dL_law_1229
