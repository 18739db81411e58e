def bI (b : Bool) : Int32 := if b = true then 1 else 0
theorem bI_t {b : Bool} (h : ¬ bI b = 0) : b = true := by cases b <;> simp_all [bI]
theorem bI_f {b : Bool} (h : bI b = 0) : ¬ b = true := by cases b <;> simp_all [bI]
theorem bI_nar (b : Bool) : narrow .boolean (.int (bI b)) = .int (bI b) := by cases b <;> rfl
theorem lc_eq {x y : Int64} (h : lg_cmp x y = 0) : x = y := by unfold lg_cmp at h; split at h; · cases h
                                                               · split at h; · assumption
                                                                 · cases h
theorem lc_ne {x y : Int64} (h : ¬ lg_cmp x y = 0) : ¬ x = y := fun e => h (by subst e; simp [lg_cmp, Int64.lt_irrefl])
theorem lc_le {x y : Int64} (h : lg_cmp x y ≤ 0) : ¬ y < x := fun e => absurd h (by simp [lg_cmp, e])
theorem lc_nle {x y : Int64} (h : ¬ lg_cmp x y ≤ 0) : y < x := by
  refine Classical.byContradiction fun e => h ?_
  unfold lg_cmp; rw [if_neg e]; split <;> decide
theorem lc_gt {x y : Int64} (h : 0 < lg_cmp x y) : y < x := by
  refine Classical.byContradiction fun e => absurd h ?_
  unfold lg_cmp; rw [if_neg e]; split <;> decide
theorem lc_ngt {x y : Int64} (h : ¬ 0 < lg_cmp x y) : ¬ y < x := fun e => h (by simp [lg_cmp, e])
theorem lc_lt {x y : Int64} (h : lg_cmp x y < 0) : x < y := by
  unfold lg_cmp at h
  split at h
  · exact absurd h (by decide)
  · split at h
    · exact absurd h (by decide)
    · rename_i h1 h2
      exact Int64.lt_of_le_of_ne (Int64.not_lt.mp h1) h2
theorem lc_nlt {x y : Int64} (h : ¬ lg_cmp x y < 0) : ¬ x < y := fun e => h (by
  have h1 : ¬ y < x := fun z => Int64.lt_irrefl (Int64.lt_trans e z)
  have h2 : ¬ x = y := fun z => by subst z; exact Int64.lt_irrefl e
  simp [lg_cmp, h1, h2])
theorem lc_ge {x y : Int64} (h : 0 ≤ lg_cmp x y) : ¬ x < y := lc_nlt (Int32.not_lt.mpr h)
theorem lc_nge {x y : Int64} (h : ¬ 0 ≤ lg_cmp x y) : x < y := lc_lt (Int32.not_le.mp h)
theorem fw_oo {w : Wd} {a b i j : Nat} {x y : List Value} (h1 : w a = some (.inr (i, x))) (h2 : w b = some (.inr (j, y))) (h : i ≠ j) : ¬ a = b := fun e => h (by rw [e, h2] at h1; injection h1 with h1; injection h1 with h1; injection h1 with h1 _; exact h1.symm)
theorem fw_oa {w : Wd} {a b i : Nat} {x : List Value} {y : ClassId × vp_A} (h1 : w a = some (.inr (i, x))) (h2 : w b = some (.inl y)) : ¬ a = b := fun e => by rw [e, h2] at h1; injection h1 with h1; cases h1
theorem fw_ao {w : Wd} {a b i : Nat} {x : List Value} {y : ClassId × vp_A} (h1 : w a = some (.inl y)) (h2 : w b = some (.inr (i, x))) : ¬ a = b := fun e => fw_oa h2 h1 e.symm
theorem fw_inj {A : Nat → Nat} {N i j : Nat} (hA : ∀ i j, i < N → j < N → A i = A j → i = j) (hi : i < N) (hj : j < N) (h : i ≠ j) : ¬ A i = A j := fun e => h (hA i j hi hj e)
theorem nI_cl {n : Nat} (h : n < 2147483648) : (nI n).toNatClampNeg = n := nI_clamp h
theorem nI_lit (n : Nat) : nI n = Int32.ofNat n := rfl
theorem nI_lt_ {a b : Nat} (ha : a < 2147483648) (hb : b < 2147483648) : nI a < nI b ↔ a < b := nI_ltI ha hb
theorem nI_le_ {a b : Nat} (ha : a < 2147483648) (hb : b < 2147483648) : nI a ≤ nI b ↔ a ≤ b := nI_leI ha hb
theorem nI_eq_ {a b : Nat} (ha : a < 2147483648) (hb : b < 2147483648) : nI a = nI b ↔ a = b := nI_eq ha hb
theorem nI_neg {n : Nat} (h : n < 2147483648) : ¬ nI n < 0 := nI_pos h
theorem nI_in_ {n N : Nat} (h : n < N) (hN : N < 2147483648) : vp_in (nI n) N := vp_in_nI h hN
theorem nI_div {a d : Nat} (ha : a < 2147483648) (h0 : 0 < d) (hd : d < 2147483648) : nI a / nI d = nI (a / d) := pk_div ha h0 hd
theorem nI_rem {a d : Nat} (ha : a < 2147483648) (h0 : 0 < d) (hd : d < 2147483648) : nI a - nI a / nI d * nI d = nI (a % d) := pk_rem ha h0 hd
theorem nI_ne0_ {n : Nat} (h0 : 0 < n) (h : n < 2147483648) : ¬ nI n = 0 := nI_ne0 h0 h
theorem fw_in {i : Int32} {N : Nat} (h0 : ¬ i < 0) (h1 : ¬ nI N ≤ i) (hN : N < 2147483648) : vp_in i N := by
  obtain ⟨j, hj, rfl⟩ := nI_of h0
  exact vp_in_nI (Nat.lt_of_not_le fun z => h1 ((nI_leI hN hj).mpr z)) hN
theorem nI_nneg {n : Nat} (h : n < 2147483648) {x : Int32} (hx : x < 0) : ¬ nI n = x := fun e => nI_pos h (by rw [e]; exact hx)
def tn (x : Int32) : Nat := x.toNatClampNeg
theorem tn_nI {n : Nat} (h : n < 2147483648) : tn (nI n) = n := nI_clamp h
theorem i32_m1 (x : Int32) : x + Int32.ofInt (-1) = x - 1 := by rw [Int32.sub_eq_add_neg]; rfl
theorem tn_e {x : Int32} (h : ¬ x < 0) : x = nI (tn x) := by
  obtain ⟨j, hj, rfl⟩ := nI_of h
  rw [tn_nI hj]
theorem i64_0le {x : Int32} : (0 : Int64) ≤ x.toInt64 ↔ ¬ x < 0 := by
  rw [Int64.le_iff_toInt_le, Int32.lt_iff_toInt_lt, Int32.toInt_toInt64]
  show (0 : Int) ≤ _ ↔ ¬ _ < (0 : Int)
  omega
theorem i64_le {x y : Int32} : x.toInt64 ≤ y.toInt64 ↔ x ≤ y := by
  rw [Int64.le_iff_toInt_le, Int32.le_iff_toInt_le, Int32.toInt_toInt64, Int32.toInt_toInt64]
section VB
variable {g : GT} {X : CtxT} {own : String} {cc : ByteArray} {nL : Nat} {rt : Option FieldType} {rm : Room} {w : Wd} {k n pc : Nat} {lv lv2 : List (Nat × Value)} {st : List Value}
theorem vv_ialdn (hC : Cx g X own cc nL rt rm) {a N t : Nat} {f : Nat → Int32} (hdg : decode cc pc = .ok (.iaload, 1)) (ha : w a = some (.inl (g.2.2.1 0, N, .inl f))) (ht : t < N) (hN : N < 2147483648) (kk : V g X nL w k n (pc + 1) lv (.int (f t) :: st)) : V g X nL w k n pc lv (.int (nI t) :: .ref a :: st) :=
  vv_iald hC hdg ha (nI_in_ ht hN) (by rw [nI_cl (by omega)]; exact kk)
theorem vv_baldn (hC : Cx g X own cc nL rt rm) {a N t : Nat} {f : Nat → Int32} (hdg : decode cc pc = .ok (.baload, 1)) (ha : w a = some (.inl (g.2.2.1 2, N, .inl f))) (ht : t < N) (hN : N < 2147483648) (kk : V g X nL w k n (pc + 1) lv (.int (f t) :: st)) : V g X nL w k n pc lv (.int (nI t) :: .ref a :: st) :=
  vv_bald hC hdg ha (nI_in_ ht hN) (by rw [nI_cl (by omega)]; exact kk)
theorem vv_zaldn (hC : Cx g X own cc nL rt rm) {a N t : Nat} {f : Nat → Int32} (hdg : decode cc pc = .ok (.baload, 1)) (ha : w a = some (.inl (g.2.2.1 3, N, .inl f))) (ht : t < N) (hN : N < 2147483648) (kk : V g X nL w k n (pc + 1) lv (.int (f t) :: st)) : V g X nL w k n pc lv (.int (nI t) :: .ref a :: st) :=
  vv_zald hC hdg ha (nI_in_ ht hN) (by rw [nI_cl (by omega)]; exact kk)
theorem vv_laldn (hC : Cx g X own cc nL rt rm) {a N t : Nat} {f : Nat → Int64} (hdg : decode cc pc = .ok (.laload, 1)) (ha : w a = some (.inl (g.2.2.1 1, N, .inr (.inl f)))) (ht : t < N) (hN : N < 2147483648) (kk : V g X nL w k n (pc + 1) lv (.long (f t) :: st)) : V g X nL w k n pc lv (.int (nI t) :: .ref a :: st) :=
  vv_lald hC hdg ha (nI_in_ ht hN) (by rw [nI_cl (by omega)]; exact kk)
theorem vv_aldqn (hC : Cx g X own cc nL rt rm) {a N t : Nat} {f : Nat → Option Nat} (hdg : decode cc pc = .ok (.aaload, 1)) (ha : w a = some (.inl (g.2.2.1 4, N, .inr (.inr (.inr (.inr f)))))) (ht : t < N) (hN : N < 2147483648) (kk : V g X nL w k n (pc + 1) lv (va_rf (f t) :: st)) : V g X nL w k n pc lv (.int (nI t) :: .ref a :: st) :=
  vv_aldq hC hdg ha (nI_in_ ht hN) (by rw [nI_cl (by omega)]; exact kk)
theorem vv_iastn (hC : Cx g X own cc nL rt rm) {a N t : Nat} {f : Nat → Int32} {x : Int32} (hdg : decode cc pc = .ok (.iastore, 1)) (ha : w a = some (.inl (g.2.2.1 0, N, .inl f))) (ht : t < N) (hN : N < 2147483648) (kk : ∀ w2 : Wd, w2 a = some (.inl (g.2.2.1 0, N, .inl (upd f t x))) → wE (fun q => q = a) w w2 → V g X nL w2 k n (pc + 1) lv st) : V g X nL w k n pc lv (.int x :: .int (nI t) :: .ref a :: st) :=
  vv_iast hC hdg ha (nI_in_ ht hN) (fun w2 h1 h2 => kk w2 (by rw [nI_cl (by omega)] at h1; exact h1) h2)
theorem vv_lastn (hC : Cx g X own cc nL rt rm) {a N t : Nat} {f : Nat → Int64} {x : Int64} (hdg : decode cc pc = .ok (.lastore, 1)) (ha : w a = some (.inl (g.2.2.1 1, N, .inr (.inl f)))) (ht : t < N) (hN : N < 2147483648) (kk : ∀ w2 : Wd, w2 a = some (.inl (g.2.2.1 1, N, .inr (.inl (vp_updL f t x)))) → wE (fun q => q = a) w w2 → V g X nL w2 k n (pc + 1) lv st) : V g X nL w k n pc lv (.long x :: .int (nI t) :: .ref a :: st) :=
  vv_last hC hdg ha (nI_in_ ht hN) (fun w2 h1 h2 => kk w2 (by rw [nI_cl (by omega)] at h1; exact h1) h2)
theorem vv_bastn (hC : Cx g X own cc nL rt rm) {a N t : Nat} {f : Nat → Int32} {x : Int32} (hdg : decode cc pc = .ok (.bastore, 1)) (ha : w a = some (.inl (g.2.2.1 2, N, .inl f))) (ht : t < N) (hN : N < 2147483648) (kk : ∀ w2 : Wd, w2 a = some (.inl (g.2.2.1 2, N, .inl (upd f t (vp_nar .byte x)))) → wE (fun q => q = a) w w2 → V g X nL w2 k n (pc + 1) lv st) : V g X nL w k n pc lv (.int x :: .int (nI t) :: .ref a :: st) :=
  vv_bast hC hdg ha (nI_in_ ht hN) (fun w2 h1 h2 => kk w2 (by rw [nI_cl (by omega)] at h1; exact h1) h2)
theorem vv_zastn (hC : Cx g X own cc nL rt rm) {a N t : Nat} {f : Nat → Int32} {x : Int32} (hdg : decode cc pc = .ok (.bastore, 1)) (ha : w a = some (.inl (g.2.2.1 3, N, .inl f))) (ht : t < N) (hN : N < 2147483648) (kk : ∀ w2 : Wd, w2 a = some (.inl (g.2.2.1 3, N, .inl (upd f t (vp_nar .boolean x)))) → wE (fun q => q = a) w w2 → V g X nL w2 k n (pc + 1) lv st) : V g X nL w k n pc lv (.int x :: .int (nI t) :: .ref a :: st) :=
  vv_zast hC hdg ha (nI_in_ ht hN) (fun w2 h1 h2 => kk w2 (by rw [nI_cl (by omega)] at h1; exact h1) h2)
theorem vv_mmax (hC : Cx g X own cc nL rt rm) {idx : Nat} {x y : Int32} (hl : Cond.methodLink own idx yJ9_max_7cf53 ∈ fwW) (hdg : decode cc pc = .ok (.invokestatic idx, 3)) (hfr : 1 ≤ rm.frames) (hlo : (st.map fun v => v.category).sum + 13 ≤ rm.locals) (hk : k ≤ rm.cells) (hn : n ≤ rm.slots) (kk : V g X nL w k n (pc + 3) lv (.int (if x < y then y else x) :: st)) : V g X nL w k n pc lv (.int y :: .int x :: st) := by
  obtain ⟨p, l, e, R, s, m, args, below, meth, c, Q⟩ := X
  obtain ⟨rfl, rfl, hx, hb, hml, hown, hts, hK, hrt, hlocks, hbs⟩ := hC
  have e : cJ9_max_7cf53 = Lib.Math.max.code := rfl
  have h1 := hts _ lk_c_J9_max_7cf53
  rw [e] at h1
  exact fun H locs ls z1 z2 z3 => va_mmax hx hb (hml.trans z3.1.symm) hown (hts _ hl) (hts _ lk_t_J9_max_7cf53) (hts _ lk_z_J9) h1 hfr hlo hk hn hdg (kk H locs ls z1 z2 z3)
theorem vv_mmin (hC : Cx g X own cc nL rt rm) {idx : Nat} {x y : Int32} (hl : Cond.methodLink own idx yJ9_min_7cf53 ∈ fwW) (hdg : decode cc pc = .ok (.invokestatic idx, 3)) (hfr : 1 ≤ rm.frames) (hlo : (st.map fun v => v.category).sum + 13 ≤ rm.locals) (hk : k ≤ rm.cells) (hn : n ≤ rm.slots) (kk : V g X nL w k n (pc + 3) lv (.int (if y < x then y else x) :: st)) : V g X nL w k n pc lv (.int y :: .int x :: st) := by
  obtain ⟨p, l, e, R, s, m, args, below, meth, c, Q⟩ := X
  obtain ⟨rfl, rfl, hx, hb, hml, hown, hts, hK, hrt, hlocks, hbs⟩ := hC
  have e : cJ9_min_7cf53 = Lib.Math.min.code := rfl
  have h1 := hts _ lk_c_J9_min_7cf53
  rw [e] at h1
  exact fun H locs ls z1 z2 z3 => va_mmin hx hb (hml.trans z3.1.symm) hown (hts _ hl) (hts _ lk_t_J9_min_7cf53) (hts _ lk_z_J9) h1 hfr hlo hk hn hdg (kk H locs ls z1 z2 z3)
end VB
