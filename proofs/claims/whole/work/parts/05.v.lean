/-! worlds as functions from addresses; the judgement V; a row an instruction -/
abbrev Wd : Type := Nat → Option va_E
abbrev GT : Type := Launch × va_G × (Nat → ClassId) × Nat
abbrev CtxT : Type := Program × Launch × Env × Room × State × MethodId × Array Value × List Frame × Method × Code × (State → Prop)
abbrev gB (g : GT) : Nat := g.2.2.2
def fwT (T : Nat → ClassId) : List (ClassId × FieldType) := [(T 0, .int), (T 1, .long), (T 2, .byte), (T 3, .boolean), (T 4, .object RX2)]
def wR (g : GT) (w : Wd) (H : Heap) : Prop := ∀ a e, w a = some e → gB g ≤ a ∧ va_at g.2.1 vwCl (a, e) H
/-- outside M what was there is there still -/
def wE (M : Nat → Prop) (w w' : Wd) : Prop := ∀ q e, ¬ M q → w q = some e → w' q = some e
def wu (w : Wd) (a : Nat) (e : va_E) : Wd := fun q => if q = a then some e else w q
def fwK (g : GT) (U : State) : Prop := va_K g.2.1 vwCl (fwT g.2.2.1) U ∧ (∀ w ∈ fwN, va_Nw w U) ∧ va_AO RX2 U
def V (g : GT) (X : CtxT) (nL : Nat) (w : Wd) (k n pc : Nat) (lv : List (Nat × Value)) (st : List Value) : Prop :=
  match X with
  | (p, l, e, R, s, m, args, below, meth, c, Q) => ∀ (H : Heap) (locs : List Loc) (ls : Array Slot), wR g w H → va_S (fun q => gB g ≤ q) s.heap H locs → lv_has ls nL lv → W p l e R s m args below meth c H locs k n Q (F0 m pc ls st)
def Cx (g : GT) (X : CtxT) (own : String) (cc : ByteArray) (nL : Nat) (rt : Option FieldType) (rm : Room) : Prop :=
  match X with
  | (p, l, _, R, s, m, args, _, meth, c, _) => l = g.1 ∧ R = rm ∧ p.tables.exec = Jvm.exec ∧ c.code = cc ∧ c.maxLocals = nL ∧ s.vm.findClass own = some m.cls ∧ (∀ w ∈ fwW, w.before args s = true) ∧ fwK g s ∧ meth.sig.returnType = rt ∧ meth.locks = false ∧ gB g ≤ s.heap.size
/-- a constructor's own frame -/
def Ci (X : CtxT) : Prop := match X with | (_, _, _, _, _, _, _, _, meth, _, _) => meth.name = "<init>"
def CQ (g : GT) (Q : Option Value → Wd → Prop) : Array Value → State → Outcome → State → Prop := fun _ st o t => (∃ r w', o = .returned r ∧ Q r w' ∧ wR g w' t.heap) ∧ va_F (fun q => gB g ≤ q) st t
def Rt (g : GT) (X : CtxT) (Q : Option Value → Wd → Prop) (mc ms : Nat) : Prop :=
  match X with
  | (_, _, _, _, s, _, args, below, _, _, Z) => Z = MQ below (CQ g Q) args s mc ms (fun q => gB g ≤ q)
def CT (g : GT) (y : MethodName) (b : ByteArray) (nL : Nat) (ret : Option FieldType) (fr lo mc ms : Nat) (w : Wd) (av : List Value) (Q : Option Value → Wd → Prop) : Prop :=
  Met g.1 y (.code y b nL ret :: fwW) { frames := fr, cells := mc, slots := ms, locals := lo } (va_Pc av (fun U => wR g w U.heap ∧ fwK g U ∧ gB g ≤ U.heap.size)) (CQ g Q) mc ms (fun q => gB g ≤ q)
theorem fwW_good : GoodIn fwW fwW := fun w hw => ⟨hw, good_of_word (List.mem_filter.mp hw).2⟩
theorem fwW_code {y : MethodName} {b : ByteArray} {nL : Nat} {ret : Option FieldType} (h : Cond.code y b nL ret ∈ fwW) : GoodIn fwW (.code y b nL ret :: fwW) := fun w hw => by
  rcases List.mem_cons.mp hw with rfl | hw
  · exact fwW_good _ h
  · exact fwW_good _ hw
theorem fwK_warm {g : GT} {s U : State} (hW : s.WarmedH U.vm) (h : fwK g s) : fwK g U := by
  refine ⟨va_K.moved hW.alike h.1, fun w hw => ?_, va_AO.moved hW.alike h.2.2⟩
  have hn := (List.mem_filter.mp hw).2
  have h1 := h.2.1 w hw
  cases w <;> first | exact va_Nw.warmF hW h1 | exact va_Nw.warmM hW h1 | cases hn
theorem fwK_blind {g : GT} {U : State} {f : JFrame} {mk : MethodId} {a : Array Value} (h : fwK g U) : fwK g (U.calling f mk a) := by
  refine ⟨va_K.moved (u := U) (U := U.calling f mk a) (Vm.Alike.refl U.vm) h.1, fun w hw => ?_, va_AO.moved (u := U) (U := U.calling f mk a) (Vm.Alike.refl U.vm) h.2.2⟩
  have hn := (List.mem_filter.mp hw).2
  have h1 := h.2.1 w hw
  cases w <;> first | exact va_Nw.same rfl rfl h1 | cases hn
theorem wu_eq {w : Wd} {a : Nat} {e : va_E} : wu w a e a = some e := if_pos rfl
theorem wu_E {w : Wd} {a : Nat} {e : va_E} : wE (fun q => q = a) w (wu w a e) := fun q x h hx => (if_neg h).trans hx
theorem wR.set {g : GT} {w : Wd} {a : Nat} {e0 e : va_E} {H H1 : Heap} (h : wR g w H) (ha : w a = some e0) (he : va_at g.2.1 vwCl (a, e) H1) (oq : ∀ q : Nat, q ≠ a → H1[q]? = H[q]?) : wR g (wu w a e) H1 := by
  intro q x hq
  by_cases hqa : q = a
  · subst hqa
    rw [wu_eq] at hq
    cases hq
    exact ⟨(h q e0 ha).1, he⟩
  · have hq2 : w q = some x := by unfold wu at hq; rw [if_neg hqa] at hq; exact hq
    exact ⟨(h q x hq2).1, (h q x hq2).2.kept (oq q hqa)⟩
theorem wR.new {g : GT} {w : Wd} {a : Nat} {e : va_E} {H H1 : Heap} (h : wR g w H) (hb : gB g ≤ a) (he : va_at g.2.1 vwCl (a, e) H1) (oq : ∀ q : Nat, q < a → H1[q]? = H[q]?) (ha : H.size = a) : wR g (wu w a e) H1 := by
  intro q x hq
  by_cases hqa : q = a
  · subst hqa
    rw [wu_eq] at hq
    cases hq
    exact ⟨hb, he⟩
  · have hq2 : w q = some x := by unfold wu at hq; rw [if_neg hqa] at hq; exact hq
    have hl : q < H.size := (h q x hq2).2.lt
    exact ⟨(h q x hq2).1, (h q x hq2).2.kept (oq q (by omega))⟩
theorem wR.fresh {g : GT} {w : Wd} {H : Heap} (h : wR g w H) : w H.size = none := by
  cases hq : w H.size with
  | none => rfl
  | some x => exact absurd (h _ _ hq).2.lt (Nat.lt_irrefl _)
theorem wE.refl {M : Nat → Prop} {w : Wd} : wE M w w := fun _ _ _ h => h
theorem wE.trans {M : Nat → Prop} {w w1 w2 : Wd} (h1 : wE M w w1) (h2 : wE M w1 w2) : wE M w w2 := fun q e hq h => h2 q e hq (h1 q e hq h)
theorem wE.mono {M M' : Nat → Prop} {w w1 : Wd} (h1 : wE M w w1) (h : ∀ q, M q → M' q) : wE M' w w1 := fun q e hq => h1 q e (fun z => hq (h q z))

section VV
variable {g : GT} {X : CtxT} {own : String} {cc : ByteArray} {nL : Nat} {rt : Option FieldType} {rm : Room} {w : Wd} {k n pc : Nat} {lv lv2 : List (Nat × Value)} {st : List Value}
theorem vv_iconst (hC : Cx g X own cc nL rt rm) {i : Int} {v : Int32} (hdg : decode cc pc = .ok (.iconst i, 1)) (hv : Int32.ofInt i = v) (kk : V g X nL w k n (pc + 1) lv (.int v :: st)) : V g X nL w k n pc lv (st) := by
  obtain ⟨p, l, e, R, s, m, args, below, meth, c, Q⟩ := X
  obtain ⟨rfl, rfl, hx, hb, hml, hown, hts, hK, hrt, hlocks, hbs⟩ := hC
  exact fun H locs ls h1 h2 h3 => lv_iconst hx hb hdg hv (kk H locs ls h1 h2 h3)
theorem vv_bipush (hC : Cx g X own cc nL rt rm) {i : Int} {v : Int32} (hdg : decode cc pc = .ok (.bipush i, 2)) (hv : (Int8.ofInt i).toInt32 = v) (kk : V g X nL w k n (pc + 2) lv (.int v :: st)) : V g X nL w k n pc lv (st) := by
  obtain ⟨p, l, e, R, s, m, args, below, meth, c, Q⟩ := X
  obtain ⟨rfl, rfl, hx, hb, hml, hown, hts, hK, hrt, hlocks, hbs⟩ := hC
  exact fun H locs ls h1 h2 h3 => lv_bipush hx hb hdg hv (kk H locs ls h1 h2 h3)
theorem vv_sipush (hC : Cx g X own cc nL rt rm) {i : Int} {v : Int32} (hdg : decode cc pc = .ok (.sipush i, 3)) (hv : (Int16.ofInt i).toInt32 = v) (kk : V g X nL w k n (pc + 3) lv (.int v :: st)) : V g X nL w k n pc lv (st) := by
  obtain ⟨p, l, e, R, s, m, args, below, meth, c, Q⟩ := X
  obtain ⟨rfl, rfl, hx, hb, hml, hown, hts, hK, hrt, hlocks, hbs⟩ := hC
  exact fun H locs ls h1 h2 h3 => lv_sipush hx hb hdg hv (kk H locs ls h1 h2 h3)
theorem vv_lconst (hC : Cx g X own cc nL rt rm) {i : Fin 2} {v : Int64} (hdg : decode cc pc = .ok (.lconst i, 1)) (hv : Int64.ofNat (i : Nat) = v) (kk : V g X nL w k n (pc + 1) lv (.long v :: st)) : V g X nL w k n pc lv (st) := by
  obtain ⟨p, l, e, R, s, m, args, below, meth, c, Q⟩ := X
  obtain ⟨rfl, rfl, hx, hb, hml, hown, hts, hK, hrt, hlocks, hbs⟩ := hC
  exact fun H locs ls h1 h2 h3 => lv_lconst hx hb hdg hv (kk H locs ls h1 h2 h3)
theorem vv_iload_n (hC : Cx g X own cc nL rt rm) {i : Fin 4} {j : Nat} {x : Int32} (z : Nat) (hdg : decode cc pc = .ok (.iload_n i, 1)) (hl : lv[z]? = some (j, .int x)) (hi : (i : Nat) = j) (kk : V g X nL w k n (pc + 1) lv (.int x :: st)) : V g X nL w k n pc lv (st) := by
  obtain ⟨p, l, e, R, s, m, args, below, meth, c, Q⟩ := X
  obtain ⟨rfl, rfl, hx, hb, hml, hown, hts, hK, hrt, hlocks, hbs⟩ := hC
  exact fun H locs ls h1 h2 h3 => lv_iload_n hx hb hdg hi (lv_at h3 z hl) (kk H locs ls h1 h2 h3)
theorem vv_iload (hC : Cx g X own cc nL rt rm) {i : Nat} {x : Int32} (z : Nat) (hdg : decode cc pc = .ok (.iload i, 2)) (hl : lv[z]? = some (i, .int x)) (kk : V g X nL w k n (pc + 2) lv (.int x :: st)) : V g X nL w k n pc lv (st) := by
  obtain ⟨p, l, e, R, s, m, args, below, meth, c, Q⟩ := X
  obtain ⟨rfl, rfl, hx, hb, hml, hown, hts, hK, hrt, hlocks, hbs⟩ := hC
  exact fun H locs ls h1 h2 h3 => lv_iload hx hb hdg (lv_at h3 z hl) (kk H locs ls h1 h2 h3)
theorem vv_istore_n (hC : Cx g X own cc nL rt rm) {j : Fin 4} {i : Nat} {x : Int32} (hdg : decode cc pc = .ok (.istore_n j, 1)) (hi : (j : Nat) = i) (hn : i < nL) (hl : (i, Value.int x) :: lv.filter (fun q => !(q.1 == i) && !(q.1 + 1 == i && q.2.category == 2)) = lv2) (kk : V g X nL w k n (pc + 1) lv2 (st)) : V g X nL w k n pc lv (.int x :: st) := by
  obtain ⟨p, l, e, R, s, m, args, below, meth, c, Q⟩ := X
  obtain ⟨rfl, rfl, hx, hb, hml, hown, hts, hK, hrt, hlocks, hbs⟩ := hC
  exact fun H locs ls h1 h2 h3 => lv_istore_n hx hb hdg hi h3 hn hl (fun ls2 h4 => kk H locs ls2 h1 h2 h4)
theorem vv_istore (hC : Cx g X own cc nL rt rm) {i : Nat} {x : Int32} (hdg : decode cc pc = .ok (.istore i, 2)) (hn : i < nL) (hl : (i, Value.int x) :: lv.filter (fun q => !(q.1 == i) && !(q.1 + 1 == i && q.2.category == 2)) = lv2) (kk : V g X nL w k n (pc + 2) lv2 (st)) : V g X nL w k n pc lv (.int x :: st) := by
  obtain ⟨p, l, e, R, s, m, args, below, meth, c, Q⟩ := X
  obtain ⟨rfl, rfl, hx, hb, hml, hown, hts, hK, hrt, hlocks, hbs⟩ := hC
  exact fun H locs ls h1 h2 h3 => lv_istore hx hb hdg h3 hn hl (fun ls2 h4 => kk H locs ls2 h1 h2 h4)
theorem vv_lload_n (hC : Cx g X own cc nL rt rm) {i : Fin 4} {j : Nat} {x : Int64} (z : Nat) (hdg : decode cc pc = .ok (.lload_n i, 1)) (hl : lv[z]? = some (j, .long x)) (hi : (i : Nat) = j) (kk : V g X nL w k n (pc + 1) lv (.long x :: st)) : V g X nL w k n pc lv (st) := by
  obtain ⟨p, l, e, R, s, m, args, below, meth, c, Q⟩ := X
  obtain ⟨rfl, rfl, hx, hb, hml, hown, hts, hK, hrt, hlocks, hbs⟩ := hC
  exact fun H locs ls h1 h2 h3 => lv_lload_n hx hb hdg hi (lv_at h3 z hl) (kk H locs ls h1 h2 h3)
theorem vv_lload (hC : Cx g X own cc nL rt rm) {i : Nat} {x : Int64} (z : Nat) (hdg : decode cc pc = .ok (.lload i, 2)) (hl : lv[z]? = some (i, .long x)) (kk : V g X nL w k n (pc + 2) lv (.long x :: st)) : V g X nL w k n pc lv (st) := by
  obtain ⟨p, l, e, R, s, m, args, below, meth, c, Q⟩ := X
  obtain ⟨rfl, rfl, hx, hb, hml, hown, hts, hK, hrt, hlocks, hbs⟩ := hC
  exact fun H locs ls h1 h2 h3 => lv_lload hx hb hdg (lv_at h3 z hl) (kk H locs ls h1 h2 h3)
theorem vv_lstore_n (hC : Cx g X own cc nL rt rm) {j : Fin 4} {i : Nat} {x : Int64} (hdg : decode cc pc = .ok (.lstore_n j, 1)) (hi : (j : Nat) = i) (hn : i + 1 < nL) (hl : (i, Value.long x) :: lv.filter (fun q => !(q.1 == i) && (!(q.1 == i + 1) && !(q.1 + 1 == i && q.2.category == 2))) = lv2) (kk : V g X nL w k n (pc + 1) lv2 (st)) : V g X nL w k n pc lv (.long x :: st) := by
  obtain ⟨p, l, e, R, s, m, args, below, meth, c, Q⟩ := X
  obtain ⟨rfl, rfl, hx, hb, hml, hown, hts, hK, hrt, hlocks, hbs⟩ := hC
  exact fun H locs ls h1 h2 h3 => lv_lstore_n hx hb hdg hi h3 hn hl (fun ls2 h4 => kk H locs ls2 h1 h2 h4)
theorem vv_lstore (hC : Cx g X own cc nL rt rm) {i : Nat} {x : Int64} (hdg : decode cc pc = .ok (.lstore i, 2)) (hn : i + 1 < nL) (hl : (i, Value.long x) :: lv.filter (fun q => !(q.1 == i) && (!(q.1 == i + 1) && !(q.1 + 1 == i && q.2.category == 2))) = lv2) (kk : V g X nL w k n (pc + 2) lv2 (st)) : V g X nL w k n pc lv (.long x :: st) := by
  obtain ⟨p, l, e, R, s, m, args, below, meth, c, Q⟩ := X
  obtain ⟨rfl, rfl, hx, hb, hml, hown, hts, hK, hrt, hlocks, hbs⟩ := hC
  exact fun H locs ls h1 h2 h3 => lv_lstore hx hb hdg h3 hn hl (fun ls2 h4 => kk H locs ls2 h1 h2 h4)
theorem vv_aload_n (hC : Cx g X own cc nL rt rm) {i : Fin 4} {j : Nat} {x : Nat} (z : Nat) (hdg : decode cc pc = .ok (.aload_n i, 1)) (hl : lv[z]? = some (j, .ref x)) (hi : (i : Nat) = j) (kk : V g X nL w k n (pc + 1) lv (.ref x :: st)) : V g X nL w k n pc lv (st) := by
  obtain ⟨p, l, e, R, s, m, args, below, meth, c, Q⟩ := X
  obtain ⟨rfl, rfl, hx, hb, hml, hown, hts, hK, hrt, hlocks, hbs⟩ := hC
  exact fun H locs ls h1 h2 h3 => lv_aload_n hx hb hdg hi (lv_at h3 z hl) (kk H locs ls h1 h2 h3)
theorem vv_aload (hC : Cx g X own cc nL rt rm) {i : Nat} {x : Nat} (z : Nat) (hdg : decode cc pc = .ok (.aload i, 2)) (hl : lv[z]? = some (i, .ref x)) (kk : V g X nL w k n (pc + 2) lv (.ref x :: st)) : V g X nL w k n pc lv (st) := by
  obtain ⟨p, l, e, R, s, m, args, below, meth, c, Q⟩ := X
  obtain ⟨rfl, rfl, hx, hb, hml, hown, hts, hK, hrt, hlocks, hbs⟩ := hC
  exact fun H locs ls h1 h2 h3 => lv_aload hx hb hdg (lv_at h3 z hl) (kk H locs ls h1 h2 h3)
theorem vv_astore_n (hC : Cx g X own cc nL rt rm) {j : Fin 4} {i : Nat} {x : Nat} (hdg : decode cc pc = .ok (.astore_n j, 1)) (hi : (j : Nat) = i) (hn : i < nL) (hl : (i, Value.ref x) :: lv.filter (fun q => !(q.1 == i) && !(q.1 + 1 == i && q.2.category == 2)) = lv2) (kk : V g X nL w k n (pc + 1) lv2 (st)) : V g X nL w k n pc lv (.ref x :: st) := by
  obtain ⟨p, l, e, R, s, m, args, below, meth, c, Q⟩ := X
  obtain ⟨rfl, rfl, hx, hb, hml, hown, hts, hK, hrt, hlocks, hbs⟩ := hC
  exact fun H locs ls h1 h2 h3 => lv_astore_n hx hb hdg hi h3 hn hl (fun ls2 h4 => kk H locs ls2 h1 h2 h4)
theorem vv_astore (hC : Cx g X own cc nL rt rm) {i : Nat} {x : Nat} (hdg : decode cc pc = .ok (.astore i, 2)) (hn : i < nL) (hl : (i, Value.ref x) :: lv.filter (fun q => !(q.1 == i) && !(q.1 + 1 == i && q.2.category == 2)) = lv2) (kk : V g X nL w k n (pc + 2) lv2 (st)) : V g X nL w k n pc lv (.ref x :: st) := by
  obtain ⟨p, l, e, R, s, m, args, below, meth, c, Q⟩ := X
  obtain ⟨rfl, rfl, hx, hb, hml, hown, hts, hK, hrt, hlocks, hbs⟩ := hC
  exact fun H locs ls h1 h2 h3 => lv_astore hx hb hdg h3 hn hl (fun ls2 h4 => kk H locs ls2 h1 h2 h4)
theorem vv_iinc (hC : Cx g X own cc nL rt rm) {i : Nat} {d : Int} {x v : Int32} (z : Nat) (hdg : decode cc pc = .ok (.iinc i d, 3)) (hk : lv[z]? = some (i, .int x)) (hv : x + Int32.ofInt d = v) (hn : i < nL) (hl : (i, Value.int v) :: lv.filter (fun q => !(q.1 == i) && !(q.1 + 1 == i && q.2.category == 2)) = lv2) (kk : V g X nL w k n (pc + 3) lv2 (st)) : V g X nL w k n pc lv (st) := by
  obtain ⟨p, l, e, R, s, m, args, below, meth, c, Q⟩ := X
  obtain ⟨rfl, rfl, hx, hb, hml, hown, hts, hK, hrt, hlocks, hbs⟩ := hC
  exact fun H locs ls h1 h2 h3 => lv_iinc hx hb hdg h3 hk hv hn hl (fun ls2 h4 => kk H locs ls2 h1 h2 h4)
theorem vv_iadd (hC : Cx g X own cc nL rt rm) {x y : Int32} (hdg : decode cc pc = .ok (.iadd, 1)) (kk : V g X nL w k n (pc + 1) lv (.int (x + y) :: st)) : V g X nL w k n pc lv (.int y :: .int x :: st) := by
  obtain ⟨p, l, e, R, s, m, args, below, meth, c, Q⟩ := X
  obtain ⟨rfl, rfl, hx, hb, hml, hown, hts, hK, hrt, hlocks, hbs⟩ := hC
  exact fun H locs ls h1 h2 h3 => lv_iadd hx hb hdg (kk H locs ls h1 h2 h3)
theorem vv_isub (hC : Cx g X own cc nL rt rm) {x y : Int32} (hdg : decode cc pc = .ok (.isub, 1)) (kk : V g X nL w k n (pc + 1) lv (.int (x - y) :: st)) : V g X nL w k n pc lv (.int y :: .int x :: st) := by
  obtain ⟨p, l, e, R, s, m, args, below, meth, c, Q⟩ := X
  obtain ⟨rfl, rfl, hx, hb, hml, hown, hts, hK, hrt, hlocks, hbs⟩ := hC
  exact fun H locs ls h1 h2 h3 => lv_isub hx hb hdg (kk H locs ls h1 h2 h3)
theorem vv_imul (hC : Cx g X own cc nL rt rm) {x y : Int32} (hdg : decode cc pc = .ok (.imul, 1)) (kk : V g X nL w k n (pc + 1) lv (.int (x * y) :: st)) : V g X nL w k n pc lv (.int y :: .int x :: st) := by
  obtain ⟨p, l, e, R, s, m, args, below, meth, c, Q⟩ := X
  obtain ⟨rfl, rfl, hx, hb, hml, hown, hts, hK, hrt, hlocks, hbs⟩ := hC
  exact fun H locs ls h1 h2 h3 => lv_imul hx hb hdg (kk H locs ls h1 h2 h3)
theorem vv_iand (hC : Cx g X own cc nL rt rm) {x y : Int32} (hdg : decode cc pc = .ok (.iand, 1)) (kk : V g X nL w k n (pc + 1) lv (.int (x &&& y) :: st)) : V g X nL w k n pc lv (.int y :: .int x :: st) := by
  obtain ⟨p, l, e, R, s, m, args, below, meth, c, Q⟩ := X
  obtain ⟨rfl, rfl, hx, hb, hml, hown, hts, hK, hrt, hlocks, hbs⟩ := hC
  exact fun H locs ls h1 h2 h3 => lv_iand hx hb hdg (kk H locs ls h1 h2 h3)
theorem vv_ior (hC : Cx g X own cc nL rt rm) {x y : Int32} (hdg : decode cc pc = .ok (.ior, 1)) (kk : V g X nL w k n (pc + 1) lv (.int (x ||| y) :: st)) : V g X nL w k n pc lv (.int y :: .int x :: st) := by
  obtain ⟨p, l, e, R, s, m, args, below, meth, c, Q⟩ := X
  obtain ⟨rfl, rfl, hx, hb, hml, hown, hts, hK, hrt, hlocks, hbs⟩ := hC
  exact fun H locs ls h1 h2 h3 => lv_ior hx hb hdg (kk H locs ls h1 h2 h3)
theorem vv_ixor (hC : Cx g X own cc nL rt rm) {x y : Int32} (hdg : decode cc pc = .ok (.ixor, 1)) (kk : V g X nL w k n (pc + 1) lv (.int (x ^^^ y) :: st)) : V g X nL w k n pc lv (.int y :: .int x :: st) := by
  obtain ⟨p, l, e, R, s, m, args, below, meth, c, Q⟩ := X
  obtain ⟨rfl, rfl, hx, hb, hml, hown, hts, hK, hrt, hlocks, hbs⟩ := hC
  exact fun H locs ls h1 h2 h3 => lv_ixor hx hb hdg (kk H locs ls h1 h2 h3)
theorem vv_ishl (hC : Cx g X own cc nL rt rm) {x y : Int32} (hdg : decode cc pc = .ok (.ishl, 1)) (kk : V g X nL w k n (pc + 1) lv (.int (x <<< (y &&& 31)) :: st)) : V g X nL w k n pc lv (.int y :: .int x :: st) := by
  obtain ⟨p, l, e, R, s, m, args, below, meth, c, Q⟩ := X
  obtain ⟨rfl, rfl, hx, hb, hml, hown, hts, hK, hrt, hlocks, hbs⟩ := hC
  exact fun H locs ls h1 h2 h3 => lv_ishl hx hb hdg (kk H locs ls h1 h2 h3)
theorem vv_ishr (hC : Cx g X own cc nL rt rm) {x y : Int32} (hdg : decode cc pc = .ok (.ishr, 1)) (kk : V g X nL w k n (pc + 1) lv (.int (x >>> (y &&& 31)) :: st)) : V g X nL w k n pc lv (.int y :: .int x :: st) := by
  obtain ⟨p, l, e, R, s, m, args, below, meth, c, Q⟩ := X
  obtain ⟨rfl, rfl, hx, hb, hml, hown, hts, hK, hrt, hlocks, hbs⟩ := hC
  exact fun H locs ls h1 h2 h3 => lv_ishr hx hb hdg (kk H locs ls h1 h2 h3)
theorem vv_idiv (hC : Cx g X own cc nL rt rm) {x y : Int32} (hdg : decode cc pc = .ok (.idiv, 1)) (hne : ¬ y = 0) (kk : V g X nL w k n (pc + 1) lv (.int (x / y) :: st)) : V g X nL w k n pc lv (.int y :: .int x :: st) := by
  obtain ⟨p, l, e, R, s, m, args, below, meth, c, Q⟩ := X
  obtain ⟨rfl, rfl, hx, hb, hml, hown, hts, hK, hrt, hlocks, hbs⟩ := hC
  exact fun H locs ls h1 h2 h3 => lv_idiv hx hb hdg hne (kk H locs ls h1 h2 h3)
theorem vv_irem (hC : Cx g X own cc nL rt rm) {x y : Int32} (hdg : decode cc pc = .ok (.irem, 1)) (hne : ¬ y = 0) (kk : V g X nL w k n (pc + 1) lv (.int (x - x / y * y) :: st)) : V g X nL w k n pc lv (.int y :: .int x :: st) := by
  obtain ⟨p, l, e, R, s, m, args, below, meth, c, Q⟩ := X
  obtain ⟨rfl, rfl, hx, hb, hml, hown, hts, hK, hrt, hlocks, hbs⟩ := hC
  exact fun H locs ls h1 h2 h3 => lv_irem hx hb hdg hne (kk H locs ls h1 h2 h3)
theorem vv_ladd (hC : Cx g X own cc nL rt rm) {x y : Int64} (hdg : decode cc pc = .ok (.ladd, 1)) (kk : V g X nL w k n (pc + 1) lv (.long (x + y) :: st)) : V g X nL w k n pc lv (.long y :: .long x :: st) := by
  obtain ⟨p, l, e, R, s, m, args, below, meth, c, Q⟩ := X
  obtain ⟨rfl, rfl, hx, hb, hml, hown, hts, hK, hrt, hlocks, hbs⟩ := hC
  exact fun H locs ls h1 h2 h3 => lv_ladd hx hb hdg (kk H locs ls h1 h2 h3)
theorem vv_lsub (hC : Cx g X own cc nL rt rm) {x y : Int64} (hdg : decode cc pc = .ok (.lsub, 1)) (kk : V g X nL w k n (pc + 1) lv (.long (x - y) :: st)) : V g X nL w k n pc lv (.long y :: .long x :: st) := by
  obtain ⟨p, l, e, R, s, m, args, below, meth, c, Q⟩ := X
  obtain ⟨rfl, rfl, hx, hb, hml, hown, hts, hK, hrt, hlocks, hbs⟩ := hC
  exact fun H locs ls h1 h2 h3 => lv_lsub hx hb hdg (kk H locs ls h1 h2 h3)
theorem vv_lmul (hC : Cx g X own cc nL rt rm) {x y : Int64} (hdg : decode cc pc = .ok (.lmul, 1)) (kk : V g X nL w k n (pc + 1) lv (.long (x * y) :: st)) : V g X nL w k n pc lv (.long y :: .long x :: st) := by
  obtain ⟨p, l, e, R, s, m, args, below, meth, c, Q⟩ := X
  obtain ⟨rfl, rfl, hx, hb, hml, hown, hts, hK, hrt, hlocks, hbs⟩ := hC
  exact fun H locs ls h1 h2 h3 => lv_lmul hx hb hdg (kk H locs ls h1 h2 h3)
theorem vv_land (hC : Cx g X own cc nL rt rm) {x y : Int64} (hdg : decode cc pc = .ok (.land, 1)) (kk : V g X nL w k n (pc + 1) lv (.long (x &&& y) :: st)) : V g X nL w k n pc lv (.long y :: .long x :: st) := by
  obtain ⟨p, l, e, R, s, m, args, below, meth, c, Q⟩ := X
  obtain ⟨rfl, rfl, hx, hb, hml, hown, hts, hK, hrt, hlocks, hbs⟩ := hC
  exact fun H locs ls h1 h2 h3 => lv_land hx hb hdg (kk H locs ls h1 h2 h3)
theorem vv_lor (hC : Cx g X own cc nL rt rm) {x y : Int64} (hdg : decode cc pc = .ok (.lor, 1)) (kk : V g X nL w k n (pc + 1) lv (.long (x ||| y) :: st)) : V g X nL w k n pc lv (.long y :: .long x :: st) := by
  obtain ⟨p, l, e, R, s, m, args, below, meth, c, Q⟩ := X
  obtain ⟨rfl, rfl, hx, hb, hml, hown, hts, hK, hrt, hlocks, hbs⟩ := hC
  exact fun H locs ls h1 h2 h3 => lv_lor hx hb hdg (kk H locs ls h1 h2 h3)
theorem vv_lxor (hC : Cx g X own cc nL rt rm) {x y : Int64} (hdg : decode cc pc = .ok (.lxor, 1)) (kk : V g X nL w k n (pc + 1) lv (.long (x ^^^ y) :: st)) : V g X nL w k n pc lv (.long y :: .long x :: st) := by
  obtain ⟨p, l, e, R, s, m, args, below, meth, c, Q⟩ := X
  obtain ⟨rfl, rfl, hx, hb, hml, hown, hts, hK, hrt, hlocks, hbs⟩ := hC
  exact fun H locs ls h1 h2 h3 => lv_lxor hx hb hdg (kk H locs ls h1 h2 h3)
theorem vv_ldiv (hC : Cx g X own cc nL rt rm) {x y : Int64} (hdg : decode cc pc = .ok (.ldiv, 1)) (hne : ¬ y = 0) (kk : V g X nL w k n (pc + 1) lv (.long (x / y) :: st)) : V g X nL w k n pc lv (.long y :: .long x :: st) := by
  obtain ⟨p, l, e, R, s, m, args, below, meth, c, Q⟩ := X
  obtain ⟨rfl, rfl, hx, hb, hml, hown, hts, hK, hrt, hlocks, hbs⟩ := hC
  exact fun H locs ls h1 h2 h3 => lv_ldiv hx hb hdg hne (kk H locs ls h1 h2 h3)
theorem vv_lrem (hC : Cx g X own cc nL rt rm) {x y : Int64} (hdg : decode cc pc = .ok (.lrem, 1)) (hne : ¬ y = 0) (kk : V g X nL w k n (pc + 1) lv (.long (x - x / y * y) :: st)) : V g X nL w k n pc lv (.long y :: .long x :: st) := by
  obtain ⟨p, l, e, R, s, m, args, below, meth, c, Q⟩ := X
  obtain ⟨rfl, rfl, hx, hb, hml, hown, hts, hK, hrt, hlocks, hbs⟩ := hC
  exact fun H locs ls h1 h2 h3 => lv_lrem hx hb hdg hne (kk H locs ls h1 h2 h3)
theorem vv_i2l (hC : Cx g X own cc nL rt rm) {x : Int32} (hdg : decode cc pc = .ok (.i2l, 1)) (kk : V g X nL w k n (pc + 1) lv (.long x.toInt64 :: st)) : V g X nL w k n pc lv (.int x :: st) := by
  obtain ⟨p, l, e, R, s, m, args, below, meth, c, Q⟩ := X
  obtain ⟨rfl, rfl, hx, hb, hml, hown, hts, hK, hrt, hlocks, hbs⟩ := hC
  exact fun H locs ls h1 h2 h3 => lv_i2l hx hb hdg rfl (kk H locs ls h1 h2 h3)
theorem vv_l2i (hC : Cx g X own cc nL rt rm) {x : Int64} (hdg : decode cc pc = .ok (.l2i, 1)) (kk : V g X nL w k n (pc + 1) lv (.int x.toInt32 :: st)) : V g X nL w k n pc lv (.long x :: st) := by
  obtain ⟨p, l, e, R, s, m, args, below, meth, c, Q⟩ := X
  obtain ⟨rfl, rfl, hx, hb, hml, hown, hts, hK, hrt, hlocks, hbs⟩ := hC
  exact fun H locs ls h1 h2 h3 => lv_l2i hx hb hdg rfl (kk H locs ls h1 h2 h3)
theorem vv_i2b (hC : Cx g X own cc nL rt rm) {x : Int32} (hdg : decode cc pc = .ok (.i2b, 1)) (kk : V g X nL w k n (pc + 1) lv (.int x.toInt8.toInt32 :: st)) : V g X nL w k n pc lv (.int x :: st) := by
  obtain ⟨p, l, e, R, s, m, args, below, meth, c, Q⟩ := X
  obtain ⟨rfl, rfl, hx, hb, hml, hown, hts, hK, hrt, hlocks, hbs⟩ := hC
  exact fun H locs ls h1 h2 h3 => lv_i2b hx hb hdg rfl (kk H locs ls h1 h2 h3)
def iushr (x y : Int32) : Int32 := (x.toUInt32 >>> (y.toUInt32 &&& Int32.toUInt32 31)).toInt32
def lushr (x : Int64) (y : Int32) : Int64 := (x.toUInt64 >>> (y.toInt64.toUInt64 &&& Int64.toUInt64 63)).toInt64
def lshl (x : Int64) (y : Int32) : Int64 := x <<< (y.toInt64 &&& 63)
def lshr (x : Int64) (y : Int32) : Int64 := x >>> (y.toInt64 &&& 63)
theorem vv_iushr (hC : Cx g X own cc nL rt rm) {x y : Int32} (hdg : decode cc pc = .ok (.iushr, 1)) (kk : V g X nL w k n (pc + 1) lv (.int (iushr x y) :: st)) : V g X nL w k n pc lv (.int y :: .int x :: st) := by
  obtain ⟨p, l, e, R, s, m, args, below, meth, c, Q⟩ := X
  obtain ⟨rfl, rfl, hx, hb, hml, hown, hts, hK, hrt, hlocks, hbs⟩ := hC
  exact fun H locs ls h1 h2 h3 => lv_iushr hx hb hdg rfl (kk H locs ls h1 h2 h3)
theorem vv_lushr (hC : Cx g X own cc nL rt rm) {x : Int64} {y : Int32} (hdg : decode cc pc = .ok (.lushr, 1)) (kk : V g X nL w k n (pc + 1) lv (.long (lushr x y) :: st)) : V g X nL w k n pc lv (.int y :: .long x :: st) := by
  obtain ⟨p, l, e, R, s, m, args, below, meth, c, Q⟩ := X
  obtain ⟨rfl, rfl, hx, hb, hml, hown, hts, hK, hrt, hlocks, hbs⟩ := hC
  exact fun H locs ls h1 h2 h3 => lv_lushr hx hb hdg rfl (kk H locs ls h1 h2 h3)
theorem vv_lshl (hC : Cx g X own cc nL rt rm) {x : Int64} {y : Int32} (hdg : decode cc pc = .ok (.lshl, 1)) (kk : V g X nL w k n (pc + 1) lv (.long (lshl x y) :: st)) : V g X nL w k n pc lv (.int y :: .long x :: st) := by
  obtain ⟨p, l, e, R, s, m, args, below, meth, c, Q⟩ := X
  obtain ⟨rfl, rfl, hx, hb, hml, hown, hts, hK, hrt, hlocks, hbs⟩ := hC
  exact fun H locs ls h1 h2 h3 => lv_lshl hx hb hdg rfl (kk H locs ls h1 h2 h3)
theorem vv_lshr (hC : Cx g X own cc nL rt rm) {x : Int64} {y : Int32} (hdg : decode cc pc = .ok (.lshr, 1)) (kk : V g X nL w k n (pc + 1) lv (.long (lshr x y) :: st)) : V g X nL w k n pc lv (.int y :: .long x :: st) := by
  obtain ⟨p, l, e, R, s, m, args, below, meth, c, Q⟩ := X
  obtain ⟨rfl, rfl, hx, hb, hml, hown, hts, hK, hrt, hlocks, hbs⟩ := hC
  exact fun H locs ls h1 h2 h3 => lv_lshr hx hb hdg rfl (kk H locs ls h1 h2 h3)
theorem vv_dup (hC : Cx g X own cc nL rt rm) {a : Value} (hdg : decode cc pc = .ok (.dup, 1)) (ha : a.category = 1) (kk : V g X nL w k n (pc + 1) lv (a :: a :: st)) : V g X nL w k n pc lv (a :: st) := by
  obtain ⟨p, l, e, R, s, m, args, below, meth, c, Q⟩ := X
  obtain ⟨rfl, rfl, hx, hb, hml, hown, hts, hK, hrt, hlocks, hbs⟩ := hC
  exact fun H locs ls h1 h2 h3 => lv_dup hx hb hdg ha (kk H locs ls h1 h2 h3)
theorem vv_pop (hC : Cx g X own cc nL rt rm) {a : Value} (hdg : decode cc pc = .ok (.pop, 1)) (ha : a.category = 1) (kk : V g X nL w k n (pc + 1) lv (st)) : V g X nL w k n pc lv (a :: st) := by
  obtain ⟨p, l, e, R, s, m, args, below, meth, c, Q⟩ := X
  obtain ⟨rfl, rfl, hx, hb, hml, hown, hts, hK, hrt, hlocks, hbs⟩ := hC
  exact fun H locs ls h1 h2 h3 => lv_pop hx hb hdg ha (kk H locs ls h1 h2 h3)
theorem vv_dup_x1 (hC : Cx g X own cc nL rt rm) {a b : Value} (hdg : decode cc pc = .ok (.dup_x1, 1)) (ha : a.category = 1) (hb2 : b.category = 1) (kk : V g X nL w k n (pc + 1) lv (a :: b :: a :: st)) : V g X nL w k n pc lv (a :: b :: st) := by
  obtain ⟨p, l, e, R, s, m, args, below, meth, c, Q⟩ := X
  obtain ⟨rfl, rfl, hx, hb, hml, hown, hts, hK, hrt, hlocks, hbs⟩ := hC
  exact fun H locs ls h1 h2 h3 => lv_dup_x1 hx hb hdg ha hb2 (kk H locs ls h1 h2 h3)
theorem vv_dup2_11 (hC : Cx g X own cc nL rt rm) {a b : Value} (hdg : decode cc pc = .ok (.dup2, 1)) (ha : a.category = 1) (hb2 : b.category = 1) (kk : V g X nL w k n (pc + 1) lv (a :: b :: a :: b :: st)) : V g X nL w k n pc lv (a :: b :: st) := by
  obtain ⟨p, l, e, R, s, m, args, below, meth, c, Q⟩ := X
  obtain ⟨rfl, rfl, hx, hb, hml, hown, hts, hK, hrt, hlocks, hbs⟩ := hC
  exact fun H locs ls h1 h2 h3 => lv_dup2_11 hx hb hdg ha hb2 (kk H locs ls h1 h2 h3)
theorem vv_dup2_2 (hC : Cx g X own cc nL rt rm) {a : Value} (hdg : decode cc pc = .ok (.dup2, 1)) (ha : a.category = 2) (kk : V g X nL w k n (pc + 1) lv (a :: a :: st)) : V g X nL w k n pc lv (a :: st) := by
  obtain ⟨p, l, e, R, s, m, args, below, meth, c, Q⟩ := X
  obtain ⟨rfl, rfl, hx, hb, hml, hown, hts, hK, hrt, hlocks, hbs⟩ := hC
  exact fun H locs ls h1 h2 h3 => lv_dup2_2 hx hb hdg ha (kk H locs ls h1 h2 h3)
theorem vv_lcmp (hC : Cx g X own cc nL rt rm) {x y : Int64} (hdg : decode cc pc = .ok (.lcmp, 1)) (kk : V g X nL w k n (pc + 1) lv (.int (lg_cmp x y) :: st)) : V g X nL w k n pc lv (.long y :: .long x :: st) := by
  obtain ⟨p, l, e, R, s, m, args, below, meth, c, Q⟩ := X
  obtain ⟨rfl, rfl, hx, hb, hml, hown, hts, hK, hrt, hlocks, hbs⟩ := hC
  exact fun H locs ls h1 h2 h3 => W.lcmp hx hb hdg (kk H locs ls h1 h2 h3)
theorem vv_goto (hC : Cx g X own cc nL rt rm) {off : Int} (tgt : Nat) (hdg : decode cc pc = .ok (.goto off, 3)) (ht : (pc : Int) + off = (tgt : Int)) (kk : V g X nL w k n (tgt) lv (st)) : V g X nL w k n pc lv (st) := by
  obtain ⟨p, l, e, R, s, m, args, below, meth, c, Q⟩ := X
  obtain ⟨rfl, rfl, hx, hb, hml, hown, hts, hK, hrt, hlocks, hbs⟩ := hC
  exact fun H locs ls h1 h2 h3 => lv_goto hx hb hdg ht (kk H locs ls h1 h2 h3)
theorem vv_null (hC : Cx g X own cc nL rt rm) (hdg : decode cc pc = .ok (.aconst_null, 1)) (kk : V g X nL w k n (pc + 1) lv (.null :: st)) : V g X nL w k n pc lv (st) := by
  obtain ⟨p, l, e, R, s, m, args, below, meth, c, Q⟩ := X
  obtain ⟨rfl, rfl, hx, hb, hml, hown, hts, hK, hrt, hlocks, hbs⟩ := hC
  exact fun H locs ls h1 h2 h3 => lv_null hx hb hdg (kk H locs ls h1 h2 h3)
theorem vv_ldc (hC : Cx g X own cc nL rt rm) {index : Nat} {v : Int32} (hc : Cond.constant own index v ∈ fwW) (hdg : decode cc pc = .ok (.ldc index, 2)) (kk : V g X nL w k n (pc + 2) lv (.int v :: st)) : V g X nL w k n pc lv (st) := by
  obtain ⟨p, l, e, R, s, m, args, below, meth, c, Q⟩ := X
  obtain ⟨rfl, rfl, hx, hb, hml, hown, hts, hK, hrt, hlocks, hbs⟩ := hC
  exact fun H locs ls h1 h2 h3 => lv_ldc hx hb hown (hts _ hc) hdg (kk H locs ls h1 h2 h3)
theorem vv_ldcw (hC : Cx g X own cc nL rt rm) {index : Nat} {v : Int32} (hc : Cond.constant own index v ∈ fwW) (hdg : decode cc pc = .ok (.ldc_w index, 3)) (kk : V g X nL w k n (pc + 3) lv (.int v :: st)) : V g X nL w k n pc lv (st) := by
  obtain ⟨p, l, e, R, s, m, args, below, meth, c, Q⟩ := X
  obtain ⟨rfl, rfl, hx, hb, hml, hown, hts, hK, hrt, hlocks, hbs⟩ := hC
  exact fun H locs ls h1 h2 h3 => lv_ldcw hx hb hown (hts _ hc) hdg (kk H locs ls h1 h2 h3)
theorem vv_ldc2 (hC : Cx g X own cc nL rt rm) {index : Nat} {v : Int64} (hc : Cond.constantLong own index v ∈ fwW) (hdg : decode cc pc = .ok (.ldc2_w index, 3)) (kk : V g X nL w k n (pc + 3) lv (.long v :: st)) : V g X nL w k n pc lv (st) := by
  obtain ⟨p, l, e, R, s, m, args, below, meth, c, Q⟩ := X
  obtain ⟨rfl, rfl, hx, hb, hml, hown, hts, hK, hrt, hlocks, hbs⟩ := hC
  exact fun H locs ls h1 h2 h3 => lv_ldc2 hx hb hown (hts _ hc) hdg (kk H locs ls h1 h2 h3)
theorem vv_ifnonnull (hC : Cx g X own cc nL rt rm) {x : Nat} {off : Int} (tgt : Nat) (hdg : decode cc pc = .ok (.ifnonnull off, 3)) (ht : (pc : Int) + off = (tgt : Int)) (kk : V g X nL w k n (tgt) lv (st)) : V g X nL w k n pc lv (.ref x :: st) := by
  obtain ⟨p, l, e, R, s, m, args, below, meth, c, Q⟩ := X
  obtain ⟨rfl, rfl, hx, hb, hml, hown, hts, hK, hrt, hlocks, hbs⟩ := hC
  exact fun H locs ls h1 h2 h3 => lv_ifnonnull hx hb hdg ht (kk H locs ls h1 h2 h3)
theorem vv_ifnonnullN (hC : Cx g X own cc nL rt rm) {off : Int} (hdg : decode cc pc = .ok (.ifnonnull off, 3)) (kk : V g X nL w k n (pc + 3) lv (st)) : V g X nL w k n pc lv (.null :: st) := by
  obtain ⟨p, l, e, R, s, m, args, below, meth, c, Q⟩ := X
  obtain ⟨rfl, rfl, hx, hb, hml, hown, hts, hK, hrt, hlocks, hbs⟩ := hC
  exact fun H locs ls h1 h2 h3 => lv_ifnonnullN hx hb hdg (kk H locs ls h1 h2 h3)
theorem vv_ifnull (hC : Cx g X own cc nL rt rm) {x : Nat} {off : Int} (hdg : decode cc pc = .ok (.ifnull off, 3)) (kk : V g X nL w k n (pc + 3) lv (st)) : V g X nL w k n pc lv (.ref x :: st) := by
  obtain ⟨p, l, e, R, s, m, args, below, meth, c, Q⟩ := X
  obtain ⟨rfl, rfl, hx, hb, hml, hown, hts, hK, hrt, hlocks, hbs⟩ := hC
  exact fun H locs ls h1 h2 h3 => lv_ifnull hx hb hdg (kk H locs ls h1 h2 h3)
theorem vv_ifnullN (hC : Cx g X own cc nL rt rm) {off : Int} (tgt : Nat) (hdg : decode cc pc = .ok (.ifnull off, 3)) (ht : (pc : Int) + off = (tgt : Int)) (kk : V g X nL w k n (tgt) lv (st)) : V g X nL w k n pc lv (.null :: st) := by
  obtain ⟨p, l, e, R, s, m, args, below, meth, c, Q⟩ := X
  obtain ⟨rfl, rfl, hx, hb, hml, hown, hts, hK, hrt, hlocks, hbs⟩ := hC
  exact fun H locs ls h1 h2 h3 => lv_ifnullN hx hb hdg ht (kk H locs ls h1 h2 h3)
theorem vv_aload_nN (hC : Cx g X own cc nL rt rm) {i : Fin 4} {j : Nat} (z : Nat) (hdg : decode cc pc = .ok (.aload_n i, 1)) (hl : lv[z]? = some (j, .null)) (hi : (i : Nat) = j) (kk : V g X nL w k n (pc + 1) lv (.null :: st)) : V g X nL w k n pc lv (st) := by
  obtain ⟨p, l, e, R, s, m, args, below, meth, c, Q⟩ := X
  obtain ⟨rfl, rfl, hx, hb, hml, hown, hts, hK, hrt, hlocks, hbs⟩ := hC
  exact fun H locs ls h1 h2 h3 => lv_aload_nN hx hb hdg hi (lv_at h3 z hl) (kk H locs ls h1 h2 h3)
theorem vv_aloadN (hC : Cx g X own cc nL rt rm) {i : Nat} (z : Nat) (hdg : decode cc pc = .ok (.aload i, 2)) (hl : lv[z]? = some (i, .null)) (kk : V g X nL w k n (pc + 2) lv (.null :: st)) : V g X nL w k n pc lv (st) := by
  obtain ⟨p, l, e, R, s, m, args, below, meth, c, Q⟩ := X
  obtain ⟨rfl, rfl, hx, hb, hml, hown, hts, hK, hrt, hlocks, hbs⟩ := hC
  exact fun H locs ls h1 h2 h3 => lv_aloadN hx hb hdg (lv_at h3 z hl) (kk H locs ls h1 h2 h3)
theorem vv_astore_nN (hC : Cx g X own cc nL rt rm) {j : Fin 4} {i : Nat} (hdg : decode cc pc = .ok (.astore_n j, 1)) (hi : (j : Nat) = i) (hn : i < nL) (hl : (i, Value.null) :: lv.filter (fun q => !(q.1 == i) && !(q.1 + 1 == i && q.2.category == 2)) = lv2) (kk : V g X nL w k n (pc + 1) lv2 (st)) : V g X nL w k n pc lv (.null :: st) := by
  obtain ⟨p, l, e, R, s, m, args, below, meth, c, Q⟩ := X
  obtain ⟨rfl, rfl, hx, hb, hml, hown, hts, hK, hrt, hlocks, hbs⟩ := hC
  exact fun H locs ls h1 h2 h3 => lv_astore_nN hx hb hdg hi h3 hn hl (fun ls2 h4 => kk H locs ls2 h1 h2 h4)
theorem vv_astoreN (hC : Cx g X own cc nL rt rm) {i : Nat} (hdg : decode cc pc = .ok (.astore i, 2)) (hn : i < nL) (hl : (i, Value.null) :: lv.filter (fun q => !(q.1 == i) && !(q.1 + 1 == i && q.2.category == 2)) = lv2) (kk : V g X nL w k n (pc + 2) lv2 (st)) : V g X nL w k n pc lv (.null :: st) := by
  obtain ⟨p, l, e, R, s, m, args, below, meth, c, Q⟩ := X
  obtain ⟨rfl, rfl, hx, hb, hml, hown, hts, hK, hrt, hlocks, hbs⟩ := hC
  exact fun H locs ls h1 h2 h3 => lv_astoreN hx hb hdg h3 hn hl (fun ls2 h4 => kk H locs ls2 h1 h2 h4)
theorem vv_if_eq (hC : Cx g X own cc nL rt rm) {x : Int32} {off : Int} (tgt : Nat) (hdg : decode cc pc = .ok (.ifCond .eq off, 3)) (ht : (pc : Int) + off = (tgt : Int)) (kt : x = 0 → V g X nL w k n tgt lv st) (kf : ¬ x = 0 → V g X nL w k n (pc + 3) lv st) : V g X nL w k n pc lv (.int x :: st) := by
  obtain ⟨p, l, e, R, s, m, args, below, meth, c, Q⟩ := X
  obtain ⟨rfl, rfl, hx, hb, hml, hown, hts, hK, hrt, hlocks, hbs⟩ := hC
  exact fun H locs ls h1 h2 h3 => lv_if_eq hx hb hdg ht (fun z => kt z H locs ls h1 h2 h3) (fun z => kf z H locs ls h1 h2 h3)
theorem vv_if_ne (hC : Cx g X own cc nL rt rm) {x : Int32} {off : Int} (tgt : Nat) (hdg : decode cc pc = .ok (.ifCond .ne off, 3)) (ht : (pc : Int) + off = (tgt : Int)) (kt : ¬ x = 0 → V g X nL w k n tgt lv st) (kf : x = 0 → V g X nL w k n (pc + 3) lv st) : V g X nL w k n pc lv (.int x :: st) := by
  obtain ⟨p, l, e, R, s, m, args, below, meth, c, Q⟩ := X
  obtain ⟨rfl, rfl, hx, hb, hml, hown, hts, hK, hrt, hlocks, hbs⟩ := hC
  exact fun H locs ls h1 h2 h3 => lv_if_ne hx hb hdg ht (fun z => kt z H locs ls h1 h2 h3) (fun z => kf z H locs ls h1 h2 h3)
theorem vv_if_lt (hC : Cx g X own cc nL rt rm) {x : Int32} {off : Int} (tgt : Nat) (hdg : decode cc pc = .ok (.ifCond .lt off, 3)) (ht : (pc : Int) + off = (tgt : Int)) (kt : x < 0 → V g X nL w k n tgt lv st) (kf : ¬ x < 0 → V g X nL w k n (pc + 3) lv st) : V g X nL w k n pc lv (.int x :: st) := by
  obtain ⟨p, l, e, R, s, m, args, below, meth, c, Q⟩ := X
  obtain ⟨rfl, rfl, hx, hb, hml, hown, hts, hK, hrt, hlocks, hbs⟩ := hC
  exact fun H locs ls h1 h2 h3 => lv_if_lt hx hb hdg ht (fun z => kt z H locs ls h1 h2 h3) (fun z => kf z H locs ls h1 h2 h3)
theorem vv_if_ge (hC : Cx g X own cc nL rt rm) {x : Int32} {off : Int} (tgt : Nat) (hdg : decode cc pc = .ok (.ifCond .ge off, 3)) (ht : (pc : Int) + off = (tgt : Int)) (kt : 0 ≤ x → V g X nL w k n tgt lv st) (kf : ¬ 0 ≤ x → V g X nL w k n (pc + 3) lv st) : V g X nL w k n pc lv (.int x :: st) := by
  obtain ⟨p, l, e, R, s, m, args, below, meth, c, Q⟩ := X
  obtain ⟨rfl, rfl, hx, hb, hml, hown, hts, hK, hrt, hlocks, hbs⟩ := hC
  exact fun H locs ls h1 h2 h3 => lv_if_ge hx hb hdg ht (fun z => kt z H locs ls h1 h2 h3) (fun z => kf z H locs ls h1 h2 h3)
theorem vv_if_gt (hC : Cx g X own cc nL rt rm) {x : Int32} {off : Int} (tgt : Nat) (hdg : decode cc pc = .ok (.ifCond .gt off, 3)) (ht : (pc : Int) + off = (tgt : Int)) (kt : 0 < x → V g X nL w k n tgt lv st) (kf : ¬ 0 < x → V g X nL w k n (pc + 3) lv st) : V g X nL w k n pc lv (.int x :: st) := by
  obtain ⟨p, l, e, R, s, m, args, below, meth, c, Q⟩ := X
  obtain ⟨rfl, rfl, hx, hb, hml, hown, hts, hK, hrt, hlocks, hbs⟩ := hC
  exact fun H locs ls h1 h2 h3 => lv_if_gt hx hb hdg ht (fun z => kt z H locs ls h1 h2 h3) (fun z => kf z H locs ls h1 h2 h3)
theorem vv_if_le (hC : Cx g X own cc nL rt rm) {x : Int32} {off : Int} (tgt : Nat) (hdg : decode cc pc = .ok (.ifCond .le off, 3)) (ht : (pc : Int) + off = (tgt : Int)) (kt : x ≤ 0 → V g X nL w k n tgt lv st) (kf : ¬ x ≤ 0 → V g X nL w k n (pc + 3) lv st) : V g X nL w k n pc lv (.int x :: st) := by
  obtain ⟨p, l, e, R, s, m, args, below, meth, c, Q⟩ := X
  obtain ⟨rfl, rfl, hx, hb, hml, hown, hts, hK, hrt, hlocks, hbs⟩ := hC
  exact fun H locs ls h1 h2 h3 => lv_if_le hx hb hdg ht (fun z => kt z H locs ls h1 h2 h3) (fun z => kf z H locs ls h1 h2 h3)
theorem vv_icmp_eq (hC : Cx g X own cc nL rt rm) {x y : Int32} {off : Int} (tgt : Nat) (hdg : decode cc pc = .ok (.if_icmp .eq off, 3)) (ht : (pc : Int) + off = (tgt : Int)) (kt : x = y → V g X nL w k n tgt lv st) (kf : ¬ x = y → V g X nL w k n (pc + 3) lv st) : V g X nL w k n pc lv (.int y :: .int x :: st) := by
  obtain ⟨p, l, e, R, s, m, args, below, meth, c, Q⟩ := X
  obtain ⟨rfl, rfl, hx, hb, hml, hown, hts, hK, hrt, hlocks, hbs⟩ := hC
  exact fun H locs ls h1 h2 h3 => lv_icmp_eq hx hb hdg ht (fun z => kt z H locs ls h1 h2 h3) (fun z => kf z H locs ls h1 h2 h3)
theorem vv_icmp_ne (hC : Cx g X own cc nL rt rm) {x y : Int32} {off : Int} (tgt : Nat) (hdg : decode cc pc = .ok (.if_icmp .ne off, 3)) (ht : (pc : Int) + off = (tgt : Int)) (kt : ¬ x = y → V g X nL w k n tgt lv st) (kf : x = y → V g X nL w k n (pc + 3) lv st) : V g X nL w k n pc lv (.int y :: .int x :: st) := by
  obtain ⟨p, l, e, R, s, m, args, below, meth, c, Q⟩ := X
  obtain ⟨rfl, rfl, hx, hb, hml, hown, hts, hK, hrt, hlocks, hbs⟩ := hC
  exact fun H locs ls h1 h2 h3 => lv_icmp_ne hx hb hdg ht (fun z => kt z H locs ls h1 h2 h3) (fun z => kf z H locs ls h1 h2 h3)
theorem vv_icmp_lt (hC : Cx g X own cc nL rt rm) {x y : Int32} {off : Int} (tgt : Nat) (hdg : decode cc pc = .ok (.if_icmp .lt off, 3)) (ht : (pc : Int) + off = (tgt : Int)) (kt : x < y → V g X nL w k n tgt lv st) (kf : ¬ x < y → V g X nL w k n (pc + 3) lv st) : V g X nL w k n pc lv (.int y :: .int x :: st) := by
  obtain ⟨p, l, e, R, s, m, args, below, meth, c, Q⟩ := X
  obtain ⟨rfl, rfl, hx, hb, hml, hown, hts, hK, hrt, hlocks, hbs⟩ := hC
  exact fun H locs ls h1 h2 h3 => lv_icmp_lt hx hb hdg ht (fun z => kt z H locs ls h1 h2 h3) (fun z => kf z H locs ls h1 h2 h3)
theorem vv_icmp_ge (hC : Cx g X own cc nL rt rm) {x y : Int32} {off : Int} (tgt : Nat) (hdg : decode cc pc = .ok (.if_icmp .ge off, 3)) (ht : (pc : Int) + off = (tgt : Int)) (kt : y ≤ x → V g X nL w k n tgt lv st) (kf : ¬ y ≤ x → V g X nL w k n (pc + 3) lv st) : V g X nL w k n pc lv (.int y :: .int x :: st) := by
  obtain ⟨p, l, e, R, s, m, args, below, meth, c, Q⟩ := X
  obtain ⟨rfl, rfl, hx, hb, hml, hown, hts, hK, hrt, hlocks, hbs⟩ := hC
  exact fun H locs ls h1 h2 h3 => lv_icmp_ge hx hb hdg ht (fun z => kt z H locs ls h1 h2 h3) (fun z => kf z H locs ls h1 h2 h3)
theorem vv_icmp_gt (hC : Cx g X own cc nL rt rm) {x y : Int32} {off : Int} (tgt : Nat) (hdg : decode cc pc = .ok (.if_icmp .gt off, 3)) (ht : (pc : Int) + off = (tgt : Int)) (kt : y < x → V g X nL w k n tgt lv st) (kf : ¬ y < x → V g X nL w k n (pc + 3) lv st) : V g X nL w k n pc lv (.int y :: .int x :: st) := by
  obtain ⟨p, l, e, R, s, m, args, below, meth, c, Q⟩ := X
  obtain ⟨rfl, rfl, hx, hb, hml, hown, hts, hK, hrt, hlocks, hbs⟩ := hC
  exact fun H locs ls h1 h2 h3 => lv_icmp_gt hx hb hdg ht (fun z => kt z H locs ls h1 h2 h3) (fun z => kf z H locs ls h1 h2 h3)
theorem vv_icmp_le (hC : Cx g X own cc nL rt rm) {x y : Int32} {off : Int} (tgt : Nat) (hdg : decode cc pc = .ok (.if_icmp .le off, 3)) (ht : (pc : Int) + off = (tgt : Int)) (kt : x ≤ y → V g X nL w k n tgt lv st) (kf : ¬ x ≤ y → V g X nL w k n (pc + 3) lv st) : V g X nL w k n pc lv (.int y :: .int x :: st) := by
  obtain ⟨p, l, e, R, s, m, args, below, meth, c, Q⟩ := X
  obtain ⟨rfl, rfl, hx, hb, hml, hown, hts, hK, hrt, hlocks, hbs⟩ := hC
  exact fun H locs ls h1 h2 h3 => lv_icmp_le hx hb hdg ht (fun z => kt z H locs ls h1 h2 h3) (fun z => kf z H locs ls h1 h2 h3)
theorem vv_tableIn (hC : Cx g X own cc nL rt rm) {dflt lo hi : Int} {offs : Array Int} {len : Nat} {x : Int32} {off : Int} (tgt : Nat) (hdg : decode cc pc = .ok (.tableswitch dflt lo hi offs, len)) (h1 : ¬ x.toInt < lo) (h2 : ¬ hi < x.toInt) (ho : offs[(x.toInt - lo).toNat]? = some off) (ht : (pc : Int) + off = (tgt : Int)) (kk : V g X nL w k n tgt lv st) : V g X nL w k n pc lv (.int x :: st) := by
  obtain ⟨p, l, e, R, s, m, args, below, meth, c, Q⟩ := X
  obtain ⟨rfl, rfl, hx, hb, hml, hown, hts, hK, hrt, hlocks, hbs⟩ := hC
  exact fun H locs ls z1 z2 z3 => lv_tableIn hx hb hdg h1 h2 ho ht (kk H locs ls z1 z2 z3)
theorem vv_tableOut (hC : Cx g X own cc nL rt rm) {dflt lo hi : Int} {offs : Array Int} {len : Nat} {x : Int32} (tgt : Nat) (hdg : decode cc pc = .ok (.tableswitch dflt lo hi offs, len)) (h : x.toInt < lo ∨ hi < x.toInt) (ht : (pc : Int) + dflt = (tgt : Int)) (kk : V g X nL w k n tgt lv st) : V g X nL w k n pc lv (.int x :: st) := by
  obtain ⟨p, l, e, R, s, m, args, below, meth, c, Q⟩ := X
  obtain ⟨rfl, rfl, hx, hb, hml, hown, hts, hK, hrt, hlocks, hbs⟩ := hC
  exact fun H locs ls z1 z2 z3 => lv_tableOut hx hb hdg h ht (kk H locs ls z1 z2 z3)
theorem vv_lookup (hC : Cx g X own cc nL rt rm) {dflt : Int} {ps : Array (Int × Int)} {len : Nat} {x : Int32} {off : Int} (tgt : Nat) (hdg : decode cc pc = .ok (.lookupswitch dflt ps, len)) (hp : (ps.toList.zip (ps.toList.drop 1)).all (fun (a, next) => a.1 < next.1) = true) (ho : Op.lookupswitch.offset ps.toList dflt x.toInt = off) (ht : (pc : Int) + off = (tgt : Int)) (kk : V g X nL w k n tgt lv st) : V g X nL w k n pc lv (.int x :: st) := by
  obtain ⟨p, l, e, R, s, m, args, below, meth, c, Q⟩ := X
  obtain ⟨rfl, rfl, hx, hb, hml, hown, hts, hK, hrt, hlocks, hbs⟩ := hC
  exact fun H locs ls z1 z2 z3 => lv_lookup hx hb hdg hp ho ht (kk H locs ls z1 z2 z3)
/-- locals in another order, or fewer -/
theorem vv_lv (zs : List Nat) (hl : lv_pick lv zs = lv2) (kk : V g X nL w k n pc lv2 st) : V g X nL w k n pc lv st := by
  obtain ⟨p, l, e, R, s, m, args, below, meth, c, Q⟩ := X
  exact fun H locs ls h1 h2 h3 => kk H locs ls h1 h2 (lv_sub h3 zs hl)
theorem vv_widen {k2 n2 : Nat} (hk : k ≤ k2) (hn : n ≤ n2) (kk : V g X nL w k2 n2 pc lv st) : V g X nL w k n pc lv st := by
  obtain ⟨p, l, e, R, s, m, args, below, meth, c, Q⟩ := X
  exact fun H locs ls h1 h2 h3 => W.widen hk hn (kk H locs ls h1 h2 h3)
/-- the topmost number by another name -/
theorem vv_topi {x : Int32} (y : Int32) (h : x = y) (kk : V g X nL w k n pc lv (.int y :: st)) : V g X nL w k n pc lv (.int x :: st) := h ▸ kk
theorem vv_topl {x : Int64} (y : Int64) (h : x = y) (kk : V g X nL w k n pc lv (.long y :: st)) : V g X nL w k n pc lv (.long x :: st) := h ▸ kk

def FL (own : String) (idx ci j : Nat) : Prop := ∃ (C : String) (T : u_T) (N : Nat), vwCl[ci]? = some (C, T, N) ∧ j < N ∧ (∀ w ∈ u_ws C T N, w ∈ fwW) ∧ Cond.fieldLink own idx (T j).1 (T j).2.1 (T j).2.2.1 ∈ fwW
def FG (own : String) (idx ci j : Nat) : Prop := ∃ (C : String) (T : u_T) (N : Nat) (host : String), vwCl[ci]? = some (C, T, N) ∧ j < N ∧ (∀ w ∈ u_ws C T N, w ∈ fwW) ∧ Cond.fieldLinkNest own idx (T j).1 (T j).2.1 (T j).2.2.1 host ∈ fwN
def FPc (C : String) (T : u_T) (N : Nat) (ty0 : Nat → FieldType) : Prop := (∀ w ∈ u_ws C T N, w ∈ fwW) ∧ (∀ j, j < N → parseFieldDescriptor (T j).2.2.1 = some (ty0 j)) ∧ (∀ a, a < N → ∀ b, b < N → a ≠ b → (T a).2.1 ≠ (T b).2.1)
def FP (own : String) (idx ci j : Nat) (ty : FieldType) : Prop := ∃ (C : String) (T : u_T) (N : Nat) (ty0 : Nat → FieldType), vwCl[ci]? = some (C, T, N) ∧ j < N ∧ FPc C T N ty0 ∧ Cond.fieldLink own idx (T j).1 (T j).2.1 (T j).2.2.1 ∈ fwW ∧ ty0 j = ty ∧ (T j).2.2.2 = false
def FR (own : String) (idx ci j : Nat) (ty : FieldType) : Prop := ∃ (C : String) (T : u_T) (N : Nat) (ty0 : Nat → FieldType) (host : String), vwCl[ci]? = some (C, T, N) ∧ j < N ∧ FPc C T N ty0 ∧ Cond.fieldLinkNest own idx (T j).1 (T j).2.1 (T j).2.2.1 host ∈ fwN ∧ ty0 j = ty ∧ (T j).2.2.2 = false
/-- a final field, written in its own class -/
def FF (own : String) (idx ci j : Nat) (ty : FieldType) : Prop := ∃ (C : String) (T : u_T) (N : Nat) (ty0 : Nat → FieldType), vwCl[ci]? = some (C, T, N) ∧ j < N ∧ FPc C T N ty0 ∧ Cond.fieldLink own idx (T j).1 (T j).2.1 (T j).2.2.1 ∈ fwW ∧ ty0 j = ty ∧ (T j).2.2.2 = true ∧ (T j).1 = own
theorem vv_get (hC : Cx g X own cc nL rt rm) {idx ci j a : Nat} {fs : List Value} {v : Value} (hF : FL own idx ci j) (hdg : decode cc pc = .ok (.getfield idx, 3)) (ha : w a = some (.inr (ci, fs))) (hv : fs[j]? = some v) (kk : V g X nL w k n (pc + 3) lv (v :: st)) : V g X nL w k n pc lv (.ref a :: st) := by
  obtain ⟨p, l, e, R, s, m, args, below, meth, c, Q⟩ := X
  obtain ⟨rfl, rfl, hx, hb, hml, hown, hts, hK, hrt, hlocks, hbs⟩ := hC
  obtain ⟨C, T, N, hc, hj, hin, hlk⟩ := hF
  exact fun H locs ls h1 h2 h3 => va_get (D := g.2.1) (tys := fwT g.2.2.1) (cl := vwCl) (ws := [(a, .inr (ci, fs))]) hx hb hts hin hown hK.1 (fun z q hz => by
    match z, hz with
    | 0, hz => cases hz; exact (h1 a _ ha).2
    | z + 1, hz => simp at hz) 0 rfl hc j hj (hts _ hlk) (fun _ h => h) hv hdg (kk H locs ls h1 h2 h3)

theorem vv_getN (hC : Cx g X own cc nL rt rm) {idx ci j a : Nat} {fs : List Value} {v : Value} (hF : FG own idx ci j) (hdg : decode cc pc = .ok (.getfield idx, 3)) (ha : w a = some (.inr (ci, fs))) (hv : fs[j]? = some v) (kk : V g X nL w k n (pc + 3) lv (v :: st)) : V g X nL w k n pc lv (.ref a :: st) := by
  obtain ⟨p, l, e, R, s, m, args, below, meth, c, Q⟩ := X
  obtain ⟨rfl, rfl, hx, hb, hml, hown, hts, hK, hrt, hlocks, hbs⟩ := hC
  obtain ⟨C, T, N, host, hc, hj, hin, hlk⟩ := hF
  exact fun H locs ls h1 h2 h3 => va_getN (D := g.2.1) (tys := fwT g.2.2.1) (cl := vwCl) (ws := [(a, .inr (ci, fs))]) hx hb hts hin hown hK.1 (fun z q hz => by
    match z, hz with
    | 0, hz => cases hz; exact (h1 a _ ha).2
    | z + 1, hz => simp at hz) 0 rfl hc j hj (va_Nw.use rfl (hK.2.1 _ hlk)) (fun _ h => h) hv hdg (kk H locs ls h1 h2 h3)

theorem vv_put (hC : Cx g X own cc nL rt rm) {idx ci j a : Nat} {fs : List Value} {v : Value} {ty : FieldType} (hF : FP own idx ci j ty) (hdg : decode cc pc = .ok (.putfield idx, 3)) (ha : w a = some (.inr (ci, fs))) (hn : narrow ty v = v) (hfit : fits ty v = true) (hl : j < fs.length) (kk : ∀ w2 : Wd, w2 a = some (.inr (ci, fs.set j v)) → wE (fun q => q = a) w w2 → V g X nL w2 k n (pc + 3) lv st) : V g X nL w k n pc lv (v :: .ref a :: st) := by
  obtain ⟨p, l, e, R, s, m, args, below, meth, c, Q⟩ := X
  obtain ⟨rfl, rfl, hx, hb, hml, hown, hts, hK, hrt, hlocks, hbs⟩ := hC
  obtain ⟨C, T, N, ty0, hc, hj, ⟨hin, hty, hnm⟩, hlk, hty2, hfin⟩ := hF
  intro H locs ls z1 z2 z3
  have hap := va_apart (own := own) hts hin ty0 hty hnm hK.1 hc
  obtain ⟨r, h1, cell, q1, q2, q3, q4⟩ := (z1 a _ ha).2
  have hr : r = (C, T, N) := Option.some.inj (h1.symm.trans hc)
  subst hr
  obtain ⟨hS, hfc, kC, hkC, hkind⟩ := hK.1.1 ci _ hc
  obtain ⟨cf, kf, fi, f, hi, hsl⟩ := hS j hj
  have hlay := hts _ (hin _ (u_in_lay hj))
  unfold u_lay at hlay
  rw [if_neg (by rw [hfin]; decide)] at hlay
  have hst := (u_facts hfc hkC (u_lays hts hin hj) hi).1
  have h6 := u_store hfc hkC hkind hlay hi (by rw [hty j hj, hty2]) hn hfit
  refine W.putK hx hb (f := f) ⟨hown, hts _ hlk, ⟨_, _, _, hi⟩, hst⟩ (by rw [q2]; exact h6) q1 q3 (by rw [hsl]; exact k2_hasslot (q4 j hj)) rfl rfl hdg fun H' e1 e2 e3 => ?_
  rw [hsl] at e1 ⊢
  exact kk _ wu_eq wu_E H' _ ls (z1.set ha ⟨_, hc, t_OB.to (V := updV (vp_V fs) j v) ⟨_, e1, q2, q3, t_set q4 hap hj v⟩ (fun i _ => vp_updV_set hl v i)⟩ e3) (z2.put e2 e3 (z1 a _ ha).1) z3
theorem vv_putN (hC : Cx g X own cc nL rt rm) {idx ci j a : Nat} {fs : List Value} {v : Value} {ty : FieldType} (hF : FR own idx ci j ty) (hdg : decode cc pc = .ok (.putfield idx, 3)) (ha : w a = some (.inr (ci, fs))) (hn : narrow ty v = v) (hfit : fits ty v = true) (hl : j < fs.length) (kk : ∀ w2 : Wd, w2 a = some (.inr (ci, fs.set j v)) → wE (fun q => q = a) w w2 → V g X nL w2 k n (pc + 3) lv st) : V g X nL w k n pc lv (v :: .ref a :: st) := by
  obtain ⟨p, l, e, R, s, m, args, below, meth, c, Q⟩ := X
  obtain ⟨rfl, rfl, hx, hb, hml, hown, hts, hK, hrt, hlocks, hbs⟩ := hC
  obtain ⟨C, T, N, ty0, host, hc, hj, ⟨hin, hty, hnm⟩, hlk, hty2, hfin⟩ := hF
  intro H locs ls z1 z2 z3
  have hap := va_apart (own := own) hts hin ty0 hty hnm hK.1 hc
  obtain ⟨r, h1, cell, q1, q2, q3, q4⟩ := (z1 a _ ha).2
  have hr : r = (C, T, N) := Option.some.inj (h1.symm.trans hc)
  subst hr
  obtain ⟨hS, hfc, kC, hkC, hkind⟩ := hK.1.1 ci _ hc
  obtain ⟨cf, kf, fi, f, hi, hsl⟩ := hS j hj
  have hlay := hts _ (hin _ (u_in_lay hj))
  unfold u_lay at hlay
  rw [if_neg (by rw [hfin]; decide)] at hlay
  have hst := (u_facts hfc hkC (u_lays hts hin hj) hi).1
  have h6 := u_store hfc hkC hkind hlay hi (by rw [hty j hj, hty2]) hn hfit
  refine va_WputK hx hb (f := f) hown (va_Nw.use rfl (hK.2.1 _ hlk)) hi hst (by rw [q2]; exact h6) q1 q3 (by rw [hsl]; exact k2_hasslot (q4 j hj)) rfl rfl hdg fun H' e1 e2 e3 => ?_
  rw [hsl] at e1 ⊢
  exact kk _ wu_eq wu_E H' _ ls (z1.set ha ⟨_, hc, t_OB.to (V := updV (vp_V fs) j v) ⟨_, e1, q2, q3, t_set q4 hap hj v⟩ (fun i _ => vp_updV_set hl v i)⟩ e3) (z2.put e2 e3 (z1 a _ ha).1) z3
theorem vv_putF (hC : Cx g X own cc nL rt rm) (hI : Ci X) {idx ci j a : Nat} {fs : List Value} {v : Value} {ty : FieldType} (hF : FF own idx ci j ty) (hdg : decode cc pc = .ok (.putfield idx, 3)) (ha : w a = some (.inr (ci, fs))) (hn : narrow ty v = v) (hfit : fits ty v = true) (hl : j < fs.length) (kk : ∀ w2 : Wd, w2 a = some (.inr (ci, fs.set j v)) → wE (fun q => q = a) w w2 → V g X nL w2 k n (pc + 3) lv st) : V g X nL w k n pc lv (v :: .ref a :: st) := by
  obtain ⟨p, l, e, R, s, m, args, below, meth, c, Q⟩ := X
  obtain ⟨rfl, rfl, hx, hb, hml, hown, hts, hK, hrt, hlocks, hbs⟩ := hC
  obtain ⟨C, T, N, ty0, hc, hj, ⟨hin, hty, hnm⟩, hlk, hty2, hfin, hdecl⟩ := hF
  intro H locs ls z1 z2 z3
  have hap := va_apart (own := own) hts hin ty0 hty hnm hK.1 hc
  obtain ⟨r, h1, cell, q1, q2, q3, q4⟩ := (z1 a _ ha).2
  have hr : r = (C, T, N) := Option.some.inj (h1.symm.trans hc)
  subst hr
  obtain ⟨hS, hfc, kC, hkC, hkind⟩ := hK.1.1 ci _ hc
  obtain ⟨cf, kf, fi, f, hi, hsl⟩ := hS j hj
  have hlay := hts _ (hin _ (u_in_lay hj))
  unfold u_lay at hlay
  rw [if_pos hfin] at hlay
  have hst := (u_facts hfc hkC (u_lays hts hin hj) hi).1
  have hcf : m.cls = cf := by
    obtain ⟨_, _, c', _, _, _, -, -, hf', -, -, -, hown2, -⟩ := Cond.laysFinal_spec hlay
    have e1 : c' = cf := by have := hi.symm.trans hf'; simp at this; exact this.1.symm
    rw [hdecl] at hown2
    have e2 := hown.symm.trans hown2
    exact (Option.some.inj e2).trans e1
  have h6 := u_fits hfc hkC hkind (Or.inr hlay) hi (by rw [hty j hj, hty2]) hn hfit
  refine W.putFinK hx hb (f := f) hown (hts _ hlk) hi hst hcf hI (by rw [q2]; exact h6) q1 q3 (by rw [hsl]; exact k2_hasslot (q4 j hj)) rfl rfl hdg fun H' e1 e2 e3 => ?_
  rw [hsl] at e1 ⊢
  exact kk _ wu_eq wu_E H' _ ls (z1.set ha ⟨_, hc, t_OB.to (V := updV (vp_V fs) j v) ⟨_, e1, q2, q3, t_set q4 hap hj v⟩ (fun i _ => vp_updV_set hl v i)⟩ e3) (z2.put e2 e3 (z1 a _ ha).1) z3
theorem vv_iald (hC : Cx g X own cc nL rt rm) {a N : Nat} {f : Nat → Int32} {i : Int32} (hdg : decode cc pc = .ok (.iaload, 1)) (ha : w a = some (.inl (g.2.2.1 0, N, .inl f))) (hin : vp_in i N) (kk : V g X nL w k n (pc + 1) lv (.int (f i.toNatClampNeg) :: st)) : V g X nL w k n pc lv (.int i :: .ref a :: st) := by
  obtain ⟨p, l, e, R, s, m, args, below, meth, c, Q⟩ := X
  obtain ⟨rfl, rfl, hx, hb, hml, hown, hts, hK, hrt, hlocks, hbs⟩ := hC
  exact fun H locs ls h1 h2 h3 => va_iald (D := g.2.1) (tys := fwT g.2.2.1) (cl := vwCl) (ws := [(a, .inl (g.2.2.1 0, N, .inl f))]) hx hb hK.1 (fun z q hz => by
    match z, hz with
    | 0, hz => cases hz; exact (h1 a _ ha).2
    | z + 1, hz => simp at hz) 0 0 rfl rfl hin hdg (kk H locs ls h1 h2 h3)
theorem vv_alen_iald (hC : Cx g X own cc nL rt rm) {a N : Nat} {f : Nat → Int32} {v : Int32} (hdg : decode cc pc = .ok (.arraylength, 1)) (ha : w a = some (.inl (g.2.2.1 0, N, .inl f))) (hv : Int32.ofNat N = v) (kk : V g X nL w k n (pc + 1) lv (.int v :: st)) : V g X nL w k n pc lv (.ref a :: st) := by
  obtain ⟨p, l, e, R, s, m, args, below, meth, c, Q⟩ := X
  obtain ⟨rfl, rfl, hx, hb, hml, hown, hts, hK, hrt, hlocks, hbs⟩ := hC
  exact fun H locs ls h1 h2 h3 => va_alen (D := g.2.1) (tys := fwT g.2.2.1) (cl := vwCl) (ws := [(a, .inl (g.2.2.1 0, N, .inl f))]) hx hb hK.1 (fun z q hz => by
    match z, hz with
    | 0, hz => cases hz; exact (h1 a _ ha).2
    | z + 1, hz => simp at hz) 0 0 rfl rfl hv hdg (kk H locs ls h1 h2 h3)
theorem vv_bald (hC : Cx g X own cc nL rt rm) {a N : Nat} {f : Nat → Int32} {i : Int32} (hdg : decode cc pc = .ok (.baload, 1)) (ha : w a = some (.inl (g.2.2.1 2, N, .inl f))) (hin : vp_in i N) (kk : V g X nL w k n (pc + 1) lv (.int (f i.toNatClampNeg) :: st)) : V g X nL w k n pc lv (.int i :: .ref a :: st) := by
  obtain ⟨p, l, e, R, s, m, args, below, meth, c, Q⟩ := X
  obtain ⟨rfl, rfl, hx, hb, hml, hown, hts, hK, hrt, hlocks, hbs⟩ := hC
  exact fun H locs ls h1 h2 h3 => va_bald (D := g.2.1) (tys := fwT g.2.2.1) (cl := vwCl) (ws := [(a, .inl (g.2.2.1 2, N, .inl f))]) hx hb hK.1 (fun z q hz => by
    match z, hz with
    | 0, hz => cases hz; exact (h1 a _ ha).2
    | z + 1, hz => simp at hz) 0 2 rfl rfl hin hdg (kk H locs ls h1 h2 h3)
theorem vv_alen_bald (hC : Cx g X own cc nL rt rm) {a N : Nat} {f : Nat → Int32} {v : Int32} (hdg : decode cc pc = .ok (.arraylength, 1)) (ha : w a = some (.inl (g.2.2.1 2, N, .inl f))) (hv : Int32.ofNat N = v) (kk : V g X nL w k n (pc + 1) lv (.int v :: st)) : V g X nL w k n pc lv (.ref a :: st) := by
  obtain ⟨p, l, e, R, s, m, args, below, meth, c, Q⟩ := X
  obtain ⟨rfl, rfl, hx, hb, hml, hown, hts, hK, hrt, hlocks, hbs⟩ := hC
  exact fun H locs ls h1 h2 h3 => va_alen (D := g.2.1) (tys := fwT g.2.2.1) (cl := vwCl) (ws := [(a, .inl (g.2.2.1 2, N, .inl f))]) hx hb hK.1 (fun z q hz => by
    match z, hz with
    | 0, hz => cases hz; exact (h1 a _ ha).2
    | z + 1, hz => simp at hz) 0 2 rfl rfl hv hdg (kk H locs ls h1 h2 h3)
theorem vv_zald (hC : Cx g X own cc nL rt rm) {a N : Nat} {f : Nat → Int32} {i : Int32} (hdg : decode cc pc = .ok (.baload, 1)) (ha : w a = some (.inl (g.2.2.1 3, N, .inl f))) (hin : vp_in i N) (kk : V g X nL w k n (pc + 1) lv (.int (f i.toNatClampNeg) :: st)) : V g X nL w k n pc lv (.int i :: .ref a :: st) := by
  obtain ⟨p, l, e, R, s, m, args, below, meth, c, Q⟩ := X
  obtain ⟨rfl, rfl, hx, hb, hml, hown, hts, hK, hrt, hlocks, hbs⟩ := hC
  exact fun H locs ls h1 h2 h3 => va_zald (D := g.2.1) (tys := fwT g.2.2.1) (cl := vwCl) (ws := [(a, .inl (g.2.2.1 3, N, .inl f))]) hx hb hK.1 (fun z q hz => by
    match z, hz with
    | 0, hz => cases hz; exact (h1 a _ ha).2
    | z + 1, hz => simp at hz) 0 3 rfl rfl hin hdg (kk H locs ls h1 h2 h3)
theorem vv_alen_zald (hC : Cx g X own cc nL rt rm) {a N : Nat} {f : Nat → Int32} {v : Int32} (hdg : decode cc pc = .ok (.arraylength, 1)) (ha : w a = some (.inl (g.2.2.1 3, N, .inl f))) (hv : Int32.ofNat N = v) (kk : V g X nL w k n (pc + 1) lv (.int v :: st)) : V g X nL w k n pc lv (.ref a :: st) := by
  obtain ⟨p, l, e, R, s, m, args, below, meth, c, Q⟩ := X
  obtain ⟨rfl, rfl, hx, hb, hml, hown, hts, hK, hrt, hlocks, hbs⟩ := hC
  exact fun H locs ls h1 h2 h3 => va_alen (D := g.2.1) (tys := fwT g.2.2.1) (cl := vwCl) (ws := [(a, .inl (g.2.2.1 3, N, .inl f))]) hx hb hK.1 (fun z q hz => by
    match z, hz with
    | 0, hz => cases hz; exact (h1 a _ ha).2
    | z + 1, hz => simp at hz) 0 3 rfl rfl hv hdg (kk H locs ls h1 h2 h3)
theorem vv_lald (hC : Cx g X own cc nL rt rm) {a N : Nat} {f : Nat → Int64} {i : Int32} (hdg : decode cc pc = .ok (.laload, 1)) (ha : w a = some (.inl (g.2.2.1 1, N, .inr (.inl f)))) (hin : vp_in i N) (kk : V g X nL w k n (pc + 1) lv (.long (f i.toNatClampNeg) :: st)) : V g X nL w k n pc lv (.int i :: .ref a :: st) := by
  obtain ⟨p, l, e, R, s, m, args, below, meth, c, Q⟩ := X
  obtain ⟨rfl, rfl, hx, hb, hml, hown, hts, hK, hrt, hlocks, hbs⟩ := hC
  exact fun H locs ls h1 h2 h3 => va_lald (D := g.2.1) (tys := fwT g.2.2.1) (cl := vwCl) (ws := [(a, .inl (g.2.2.1 1, N, .inr (.inl f)))]) hx hb hK.1 (fun z q hz => by
    match z, hz with
    | 0, hz => cases hz; exact (h1 a _ ha).2
    | z + 1, hz => simp at hz) 0 1 rfl rfl hin hdg (kk H locs ls h1 h2 h3)
theorem vv_alen_lald (hC : Cx g X own cc nL rt rm) {a N : Nat} {f : Nat → Int64} {v : Int32} (hdg : decode cc pc = .ok (.arraylength, 1)) (ha : w a = some (.inl (g.2.2.1 1, N, .inr (.inl f)))) (hv : Int32.ofNat N = v) (kk : V g X nL w k n (pc + 1) lv (.int v :: st)) : V g X nL w k n pc lv (.ref a :: st) := by
  obtain ⟨p, l, e, R, s, m, args, below, meth, c, Q⟩ := X
  obtain ⟨rfl, rfl, hx, hb, hml, hown, hts, hK, hrt, hlocks, hbs⟩ := hC
  exact fun H locs ls h1 h2 h3 => va_alen (D := g.2.1) (tys := fwT g.2.2.1) (cl := vwCl) (ws := [(a, .inl (g.2.2.1 1, N, .inr (.inl f)))]) hx hb hK.1 (fun z q hz => by
    match z, hz with
    | 0, hz => cases hz; exact (h1 a _ ha).2
    | z + 1, hz => simp at hz) 0 1 rfl rfl hv hdg (kk H locs ls h1 h2 h3)
theorem vv_aldq (hC : Cx g X own cc nL rt rm) {a N : Nat} {f : Nat → Option Nat} {i : Int32} (hdg : decode cc pc = .ok (.aaload, 1)) (ha : w a = some (.inl (g.2.2.1 4, N, .inr (.inr (.inr (.inr f)))))) (hin : vp_in i N) (kk : V g X nL w k n (pc + 1) lv (va_rf (f i.toNatClampNeg) :: st)) : V g X nL w k n pc lv (.int i :: .ref a :: st) := by
  obtain ⟨p, l, e, R, s, m, args, below, meth, c, Q⟩ := X
  obtain ⟨rfl, rfl, hx, hb, hml, hown, hts, hK, hrt, hlocks, hbs⟩ := hC
  exact fun H locs ls h1 h2 h3 => va_aldq (D := g.2.1) (tys := fwT g.2.2.1) (cl := vwCl) (ws := [(a, .inl (g.2.2.1 4, N, .inr (.inr (.inr (.inr f)))))]) hx hb hK.1 (fun z q hz => by
    match z, hz with
    | 0, hz => cases hz; exact (h1 a _ ha).2
    | z + 1, hz => simp at hz) 0 4 rfl rfl hin hdg (kk H locs ls h1 h2 h3)
theorem vv_alen_aldq (hC : Cx g X own cc nL rt rm) {a N : Nat} {f : Nat → Option Nat} {v : Int32} (hdg : decode cc pc = .ok (.arraylength, 1)) (ha : w a = some (.inl (g.2.2.1 4, N, .inr (.inr (.inr (.inr f)))))) (hv : Int32.ofNat N = v) (kk : V g X nL w k n (pc + 1) lv (.int v :: st)) : V g X nL w k n pc lv (.ref a :: st) := by
  obtain ⟨p, l, e, R, s, m, args, below, meth, c, Q⟩ := X
  obtain ⟨rfl, rfl, hx, hb, hml, hown, hts, hK, hrt, hlocks, hbs⟩ := hC
  exact fun H locs ls h1 h2 h3 => va_alen (D := g.2.1) (tys := fwT g.2.2.1) (cl := vwCl) (ws := [(a, .inl (g.2.2.1 4, N, .inr (.inr (.inr (.inr f)))))]) hx hb hK.1 (fun z q hz => by
    match z, hz with
    | 0, hz => cases hz; exact (h1 a _ ha).2
    | z + 1, hz => simp at hz) 0 4 rfl rfl hv hdg (kk H locs ls h1 h2 h3)
theorem vv_iast (hC : Cx g X own cc nL rt rm) {a N : Nat} {f : Nat → Int32} {i : Int32} {x : Int32} (hdg : decode cc pc = .ok (.iastore, 1)) (ha : w a = some (.inl (g.2.2.1 0, N, .inl f))) (hin : vp_in i N) (kk : ∀ w2 : Wd, w2 a = some (.inl (g.2.2.1 0, N, .inl (upd f i.toNatClampNeg x))) → wE (fun q => q = a) w w2 → V g X nL w2 k n (pc + 1) lv st) : V g X nL w k n pc lv (.int x :: .int i :: .ref a :: st) := by
  obtain ⟨p, l, e, R, s, m, args, below, meth, c, Q⟩ := X
  obtain ⟨rfl, rfl, hx, hb, hml, hown, hts, hK, hrt, hlocks, hbs⟩ := hC
  intro H locs ls z1 z2 z3
  refine W.iast hx hb (z1 a _ ha).2 ((hK.1.2 0 _ rfl).1 N (fun j => .int (f j))) (fun q => by cases q) (by show ¬ (i < 0 ∨ (arrV _ _ _).slots.size ≤ _); rw [arrV_size]; exact hin) rfl rfl hdg fun H1 e z oq => ?_
  refine kk _ wu_eq wu_E H1 _ ls (z1.set ha ?_ oq) (z2.put z oq (z1 a _ ha).1) z3
  show H1[a]? = some (vp_cell _ _)
  rw [e]
  show some ((vp_cell _ _).setSlot _ _) = _
  rw [vp_cell_i, vp_cell_i, arrV_store]
  congr 2
  funext q
  by_cases hq : q = i.toNatClampNeg
  · subst hq
    simp [updV, upd]
    try rfl
  · simp [updV, upd, vp_updL, hq]
theorem vv_last (hC : Cx g X own cc nL rt rm) {a N : Nat} {f : Nat → Int64} {i : Int32} {x : Int64} (hdg : decode cc pc = .ok (.lastore, 1)) (ha : w a = some (.inl (g.2.2.1 1, N, .inr (.inl f)))) (hin : vp_in i N) (kk : ∀ w2 : Wd, w2 a = some (.inl (g.2.2.1 1, N, .inr (.inl (vp_updL f i.toNatClampNeg x)))) → wE (fun q => q = a) w w2 → V g X nL w2 k n (pc + 1) lv st) : V g X nL w k n pc lv (.long x :: .int i :: .ref a :: st) := by
  obtain ⟨p, l, e, R, s, m, args, below, meth, c, Q⟩ := X
  obtain ⟨rfl, rfl, hx, hb, hml, hown, hts, hK, hrt, hlocks, hbs⟩ := hC
  intro H locs ls z1 z2 z3
  refine W.last hx hb (z1 a _ ha).2 ((hK.1.2 1 _ rfl).1 N (fun j => .long (f j))) (fun q => by cases q) (by show ¬ (i < 0 ∨ (arrV _ _ _).slots.size ≤ _); rw [arrV_size]; exact hin) rfl rfl hdg fun H1 e z oq => ?_
  refine kk _ wu_eq wu_E H1 _ ls (z1.set ha ?_ oq) (z2.put z oq (z1 a _ ha).1) z3
  show H1[a]? = some (vp_cell _ _)
  rw [e]
  show some ((vp_cell _ _).setSlot _ _) = _
  rw [vp_cell_l, vp_cell_l, arrV_store]
  congr 2
  funext q
  by_cases hq : q = i.toNatClampNeg
  · subst hq
    simp [updV, vp_updL]
    try rfl
  · simp [updV, upd, vp_updL, hq]
theorem vv_bast (hC : Cx g X own cc nL rt rm) {a N : Nat} {f : Nat → Int32} {i : Int32} {x : Int32} (hdg : decode cc pc = .ok (.bastore, 1)) (ha : w a = some (.inl (g.2.2.1 2, N, .inl f))) (hin : vp_in i N) (kk : ∀ w2 : Wd, w2 a = some (.inl (g.2.2.1 2, N, .inl (upd f i.toNatClampNeg (vp_nar .byte x)))) → wE (fun q => q = a) w w2 → V g X nL w2 k n (pc + 1) lv st) : V g X nL w k n pc lv (.int x :: .int i :: .ref a :: st) := by
  obtain ⟨p, l, e, R, s, m, args, below, meth, c, Q⟩ := X
  obtain ⟨rfl, rfl, hx, hb, hml, hown, hts, hK, hrt, hlocks, hbs⟩ := hC
  intro H locs ls z1 z2 z3
  refine W.bast hx hb (z1 a _ ha).2 ((hK.1.2 2 _ rfl).1 N (fun j => .int (f j))) (fun q => by cases q) (by show ¬ (i < 0 ∨ (arrV _ _ _).slots.size ≤ _); rw [arrV_size]; exact hin) rfl rfl hdg fun H1 e z oq => ?_
  refine kk _ wu_eq wu_E H1 _ ls (z1.set ha ?_ oq) (z2.put z oq (z1 a _ ha).1) z3
  show H1[a]? = some (vp_cell _ _)
  rw [e]
  show some ((vp_cell _ _).setSlot _ _) = _
  rw [vp_cell_i, vp_cell_i, arrV_store]
  congr 2
  funext q
  by_cases hq : q = i.toNatClampNeg
  · subst hq
    simp [updV, upd, vp_nar]
    try rfl
  · simp [updV, upd, vp_updL, hq]
theorem vv_zast (hC : Cx g X own cc nL rt rm) {a N : Nat} {f : Nat → Int32} {i : Int32} {x : Int32} (hdg : decode cc pc = .ok (.bastore, 1)) (ha : w a = some (.inl (g.2.2.1 3, N, .inl f))) (hin : vp_in i N) (kk : ∀ w2 : Wd, w2 a = some (.inl (g.2.2.1 3, N, .inl (upd f i.toNatClampNeg (vp_nar .boolean x)))) → wE (fun q => q = a) w w2 → V g X nL w2 k n (pc + 1) lv st) : V g X nL w k n pc lv (.int x :: .int i :: .ref a :: st) := by
  obtain ⟨p, l, e, R, s, m, args, below, meth, c, Q⟩ := X
  obtain ⟨rfl, rfl, hx, hb, hml, hown, hts, hK, hrt, hlocks, hbs⟩ := hC
  intro H locs ls z1 z2 z3
  refine W.zast hx hb (z1 a _ ha).2 ((hK.1.2 3 _ rfl).1 N (fun j => .int (f j))) (fun q => by cases q) (by show ¬ (i < 0 ∨ (arrV _ _ _).slots.size ≤ _); rw [arrV_size]; exact hin) rfl rfl hdg fun H1 e z oq => ?_
  refine kk _ wu_eq wu_E H1 _ ls (z1.set ha ?_ oq) (z2.put z oq (z1 a _ ha).1) z3
  show H1[a]? = some (vp_cell _ _)
  rw [e]
  show some ((vp_cell _ _).setSlot _ _) = _
  rw [vp_cell_i, vp_cell_i, arrV_store]
  congr 2
  funext q
  by_cases hq : q = i.toNatClampNeg
  · subst hq
    simp [updV, upd, vp_nar]
    try rfl
  · simp [updV, upd, vp_updL, hq]
theorem vv_astq (hC : Cx g X own cc nL rt rm) {a N v : Nat} {f : Nat → Option Nat} {vs : List Value} {i : Int32} (hdg : decode cc pc = .ok (.aastore, 1)) (ha : w a = some (.inl (g.2.2.1 4, N, .inr (.inr (.inr (.inr f)))))) (hv : w v = some (.inr (2, vs))) (hin : vp_in i N) (kk : ∀ w2 : Wd, w2 a = some (.inl (g.2.2.1 4, N, .inr (.inr (.inr (.inr (va_up f i.toNatClampNeg (some v))))))) → wE (fun q => q = a) w w2 → V g X nL w2 k n (pc + 1) lv st) : V g X nL w k n pc lv (.ref v :: .int i :: .ref a :: st) := by
  obtain ⟨p, l, e, R, s, m, args, below, meth, c, Q⟩ := X
  obtain ⟨rfl, rfl, hx, hb, hml, hown, hts, hK, hrt, hlocks, hbs⟩ := hC
  intro H locs ls z1 z2 z3
  have hlt : i.toNatClampNeg < N := Nat.not_le.mp fun q => hin (Or.inr q)
  have h0 : ¬ i < 0 := fun q => hin (Or.inl q)
  obtain ⟨r', hr', cellV, g1, g2, g3, -⟩ := (z1 v _ hv).2
  have hcls := (hK.1.1 2 (RX2, TX2, 10) rfl).2
  obtain ⟨kA, comp, k1, k2, k3, -⟩ := (hK.1.2 4 (g.2.2.1 4, .object RX2) rfl).2
  have hcomp : comp = g.2.1.1 2 := Option.some.inj (k3.symm.trans hcls.1)
  subst hcomp
  obtain ⟨kC, hkC, -⟩ := hcls.2
  refine W.aast hx hb (z1 a _ ha).2 (fun q h => by cases h) (fun h => by cases h) k1 k2 rfl hkC ⟨h0, by show _ < (arrV _ _ _).slots.size; rw [arrV_size]; exact hlt⟩ g1 (fun q h => by rw [g3] at h; cases h) (by rw [g2]; exact hkC) (by rw [g2]; exact va_assign hcls) rfl rfl hdg fun H1 e z oq => ?_
  refine kk _ wu_eq wu_E H1 _ ls (z1.set ha ?_ oq) (z2.put z oq (z1 a _ ha).1) z3
  show H1[a]? = some (vp_cell _ _)
  rw [e]
  show some ((vp_cell _ _).setSlot _ _) = _
  rw [vp_cell_q, vp_cell_q, arrV_store]
  congr 2
  funext q
  by_cases hq : q = i.toNatClampNeg
  · subst hq
    simp [updV, va_up, va_rf]
  · simp [updV, va_up, hq]
theorem fw_sing {g : GT} {a : Nat} {e : va_E} {H : Heap} (h : va_P g.2.1 vwCl ([] ++ [(a, e)]) H) : va_at g.2.1 vwCl (a, e) H := h 0 _ rfl
theorem vv_new (hC : Cx g X own cc nL rt rm) {C : String} {T : u_T} {N ci idx : Nat} {ty0 : Nat → FieldType} {fs : List Value} (hP0 : FPc C T N ty0) (hc : vwCl[ci]? = some (C, T, N)) (ho : Cond.classLink own idx C ∈ fwW) (hi : Cond.instantiable C N ∈ fwW) (hz : Cond.initialized C ∈ fwW) (hdg : decode cc pc = .ok (.new idx, 3)) (hfs : ∀ j, j < N → defaultValue (ty0 j) = vp_V fs j) (hcells : k + 1 ≤ rm.cells) (hslots : n + N ≤ rm.slots) (kk : ∀ (q : Nat) (w2 : Wd), w q = none → w2 q = some (.inr (ci, fs)) → wE (fun _ => False) w w2 → V g X nL w2 (k + 1) (n + N) (pc + 3) lv (.ref q :: st)) : V g X nL w k n pc lv st := by
  obtain ⟨p, l, e, R, s, m, args, below, meth, c, Q⟩ := X
  obtain ⟨rfl, rfl, hx, hb, hml, hown, hts, hK, hrt, hlocks, hbs⟩ := hC
  intro H locs ls z1 z2 z3
  have hKn := hK.1.1 ci _ hc
  refine W.newcK hx hb hown (hts _ ho) (hts _ hi) (hts _ hz) rfl hdg hcells hslots hKn.2.1 rfl fun H1 kC hkC e1 y1 o1 => ?_
  have hbz : gB g ≤ H.size := Nat.le_trans hbs z2.1
  refine kk H.size _ z1.fresh wu_eq ?_ H1 locs ls (z1.new hbz ⟨_, hc, (u_born ty0 hts hP0.1 hKn hkC e1 hP0.2.1).to hfs⟩ o1 rfl) ⟨Nat.le_trans z2.1 (by omega), fun x h1 h2 => (o1 x (Nat.lt_of_lt_of_le h1 z2.1)).trans (z2.2.1 x h1 h2), z2.2.2⟩ z3
  intro q x _ hq
  exact (if_neg (Nat.ne_of_lt (z1 q x hq).2.lt)).trans hq
theorem fw_RA {s : State} {ty : FieldType} {c1 c2 : ClassId} (h : ∀ C, ty ≠ .object C) (h1 : va_RA s c1 ty) (h2 : s.vm.findClass ("[" ++ ty.toString) = some c2) : c2 = c1 := by
  cases ty <;> first | exact absurd rfl (h _) | exact Option.some.inj (h2.symm.trans h1)

theorem vv_newaI (hC : Cx g X own cc nL rt rm) {v : Int32} {N : Nat} (ha : Cond.arrayClass .int ∈ fwW) (hdg : decode cc pc = .ok (.newarray .int, 2)) (hn : ¬ v < 0) (hN : v.toNatClampNeg = N) (hbytes : N * componentBytes .int ≤ 536870912) (hcells : k + 1 ≤ rm.cells) (hslots : n + N ≤ rm.slots) (kk : ∀ (q : Nat) (w2 : Wd), w q = none → w2 q = some (.inl (g.2.2.1 0, N, .inl (fun _ => 0))) → wE (fun _ => False) w w2 → V g X nL w2 (k + 1) (n + N) (pc + 2) lv (.ref q :: st)) : V g X nL w k n pc lv (.int v :: st) := by
  obtain ⟨p, l, e, R, s, m, args, below, meth, c, Q⟩ := X
  obtain ⟨rfl, rfl, hx, hb, hml, hown, hts, hK, hrt, hlocks, hbs⟩ := hC
  intro H locs ls z1 z2 z3
  refine va_newaK (N := N) (atype := .int) hx hb (hts _ ha) rfl hdg rfl hn hN hbytes hcells hslots rfl fun H1 cA e1 y1 o1 hAr hNm => ?_
  have hcA : cA = g.2.2.1 0 := fw_RA (fun C h => by cases h) (hK.1.2 0 (g.2.2.1 0, .int) rfl).2 hNm
  subst hcA
  have hbz : gB g ≤ H.size := Nat.le_trans hbs z2.1
  refine kk H.size _ z1.fresh wu_eq ?_ H1 locs ls (z1.new hbz ?_ o1 rfl) ⟨Nat.le_trans z2.1 (by omega), fun x h1 h2 => (o1 x (Nat.lt_of_lt_of_le h1 z2.1)).trans (z2.2.1 x h1 h2), z2.2.2⟩ z3
  · intro q x _ hq
    exact (if_neg (Nat.ne_of_lt (z1 q x hq).2.lt)).trans hq
  · exact e1
theorem vv_newaJ (hC : Cx g X own cc nL rt rm) {v : Int32} {N : Nat} (ha : Cond.arrayClass .long ∈ fwW) (hdg : decode cc pc = .ok (.newarray .long, 2)) (hn : ¬ v < 0) (hN : v.toNatClampNeg = N) (hbytes : N * componentBytes .long ≤ 536870912) (hcells : k + 1 ≤ rm.cells) (hslots : n + N ≤ rm.slots) (kk : ∀ (q : Nat) (w2 : Wd), w q = none → w2 q = some (.inl (g.2.2.1 1, N, .inr (.inl (fun _ => 0)))) → wE (fun _ => False) w w2 → V g X nL w2 (k + 1) (n + N) (pc + 2) lv (.ref q :: st)) : V g X nL w k n pc lv (.int v :: st) := by
  obtain ⟨p, l, e, R, s, m, args, below, meth, c, Q⟩ := X
  obtain ⟨rfl, rfl, hx, hb, hml, hown, hts, hK, hrt, hlocks, hbs⟩ := hC
  intro H locs ls z1 z2 z3
  refine va_newaK (N := N) (atype := .long) hx hb (hts _ ha) rfl hdg rfl hn hN hbytes hcells hslots rfl fun H1 cA e1 y1 o1 hAr hNm => ?_
  have hcA : cA = g.2.2.1 1 := fw_RA (fun C h => by cases h) (hK.1.2 1 (g.2.2.1 1, .long) rfl).2 hNm
  subst hcA
  have hbz : gB g ≤ H.size := Nat.le_trans hbs z2.1
  refine kk H.size _ z1.fresh wu_eq ?_ H1 locs ls (z1.new hbz ?_ o1 rfl) ⟨Nat.le_trans z2.1 (by omega), fun x h1 h2 => (o1 x (Nat.lt_of_lt_of_le h1 z2.1)).trans (z2.2.1 x h1 h2), z2.2.2⟩ z3
  · intro q x _ hq
    exact (if_neg (Nat.ne_of_lt (z1 q x hq).2.lt)).trans hq
  · exact e1
theorem vv_newaB (hC : Cx g X own cc nL rt rm) {v : Int32} {N : Nat} (ha : Cond.arrayClass .byte ∈ fwW) (hdg : decode cc pc = .ok (.newarray .byte, 2)) (hn : ¬ v < 0) (hN : v.toNatClampNeg = N) (hbytes : N * componentBytes .byte ≤ 536870912) (hcells : k + 1 ≤ rm.cells) (hslots : n + N ≤ rm.slots) (kk : ∀ (q : Nat) (w2 : Wd), w q = none → w2 q = some (.inl (g.2.2.1 2, N, .inl (fun _ => 0))) → wE (fun _ => False) w w2 → V g X nL w2 (k + 1) (n + N) (pc + 2) lv (.ref q :: st)) : V g X nL w k n pc lv (.int v :: st) := by
  obtain ⟨p, l, e, R, s, m, args, below, meth, c, Q⟩ := X
  obtain ⟨rfl, rfl, hx, hb, hml, hown, hts, hK, hrt, hlocks, hbs⟩ := hC
  intro H locs ls z1 z2 z3
  refine va_newaK (N := N) (atype := .byte) hx hb (hts _ ha) rfl hdg rfl hn hN hbytes hcells hslots rfl fun H1 cA e1 y1 o1 hAr hNm => ?_
  have hcA : cA = g.2.2.1 2 := fw_RA (fun C h => by cases h) (hK.1.2 2 (g.2.2.1 2, .byte) rfl).2 hNm
  subst hcA
  have hbz : gB g ≤ H.size := Nat.le_trans hbs z2.1
  refine kk H.size _ z1.fresh wu_eq ?_ H1 locs ls (z1.new hbz ?_ o1 rfl) ⟨Nat.le_trans z2.1 (by omega), fun x h1 h2 => (o1 x (Nat.lt_of_lt_of_le h1 z2.1)).trans (z2.2.1 x h1 h2), z2.2.2⟩ z3
  · intro q x _ hq
    exact (if_neg (Nat.ne_of_lt (z1 q x hq).2.lt)).trans hq
  · exact e1
theorem vv_newaZ (hC : Cx g X own cc nL rt rm) {v : Int32} {N : Nat} (ha : Cond.arrayClass .boolean ∈ fwW) (hdg : decode cc pc = .ok (.newarray .boolean, 2)) (hn : ¬ v < 0) (hN : v.toNatClampNeg = N) (hbytes : N * componentBytes .boolean ≤ 536870912) (hcells : k + 1 ≤ rm.cells) (hslots : n + N ≤ rm.slots) (kk : ∀ (q : Nat) (w2 : Wd), w q = none → w2 q = some (.inl (g.2.2.1 3, N, .inl (fun _ => 0))) → wE (fun _ => False) w w2 → V g X nL w2 (k + 1) (n + N) (pc + 2) lv (.ref q :: st)) : V g X nL w k n pc lv (.int v :: st) := by
  obtain ⟨p, l, e, R, s, m, args, below, meth, c, Q⟩ := X
  obtain ⟨rfl, rfl, hx, hb, hml, hown, hts, hK, hrt, hlocks, hbs⟩ := hC
  intro H locs ls z1 z2 z3
  refine va_newaK (N := N) (atype := .boolean) hx hb (hts _ ha) rfl hdg rfl hn hN hbytes hcells hslots rfl fun H1 cA e1 y1 o1 hAr hNm => ?_
  have hcA : cA = g.2.2.1 3 := fw_RA (fun C h => by cases h) (hK.1.2 3 (g.2.2.1 3, .boolean) rfl).2 hNm
  subst hcA
  have hbz : gB g ≤ H.size := Nat.le_trans hbs z2.1
  refine kk H.size _ z1.fresh wu_eq ?_ H1 locs ls (z1.new hbz ?_ o1 rfl) ⟨Nat.le_trans z2.1 (by omega), fun x h1 h2 => (o1 x (Nat.lt_of_lt_of_le h1 z2.1)).trans (z2.2.1 x h1 h2), z2.2.2⟩ z3
  · intro q x _ hq
    exact (if_neg (Nat.ne_of_lt (z1 q x hq).2.lt)).trans hq
  · exact e1
theorem vv_newq (hC : Cx g X own cc nL rt rm) {idx : Nat} {v : Int32} {N : Nat} (ho : Cond.classLink own idx RX2 ∈ fwW) (hdg : decode cc pc = .ok (.anewarray idx, 3)) (hn : ¬ v < 0) (hN : v.toNatClampNeg = N) (hbytes : N * 4 ≤ 536870912) (hcells : k + 1 ≤ rm.cells) (hslots : n + N ≤ rm.slots) (kk : ∀ (q : Nat) (w2 : Wd), w q = none → w2 q = some (.inl (g.2.2.1 4, N, .inr (.inr (.inr (.inr (fun _ => none)))))) → wE (fun _ => False) w w2 → V g X nL w2 (k + 1) (n + N) (pc + 3) lv (.ref q :: st)) : V g X nL w k n pc lv (.int v :: st) := by
  obtain ⟨p, l, e, R, s, m, args, below, meth, c, Q⟩ := X
  obtain ⟨rfl, rfl, hx, hb, hml, hown, hts, hK, hrt, hlocks, hbs⟩ := hC
  intro H locs ls z1 z2 z3
  subst hN
  refine W.anew hx hb hown (hts _ ho) (va_AO.use hK.2.2) rfl hdg rfl hn hbytes hcells hslots fun cA kA comp f1 f2 f3 f4 => ?_
  generalize hH1 : H.push ({ cls := cA, slots := Array.replicate v.toNatClampNeg .null, vm := .none } : Cell) = H1
  have y1 : H1.size = H.size + 1 := by rw [← hH1, Array.size_push]
  have e1 : H1[H.size]? = some (arrV cA v.toNatClampNeg (fun _ => .null)) := by rw [← hH1, Array.getElem?_push_size, ← arrV_new]
  have o1 : ∀ q : Nat, q < H.size → H1[q]? = H[q]? := fun q hq => by rw [← hH1, Array.getElem?_push, if_neg (Nat.ne_of_lt hq)]
  obtain ⟨kA2, comp2, k1, k2, k3, k4⟩ := (hK.1.2 4 (g.2.2.1 4, .object RX2) rfl).2
  have hcA : cA = g.2.2.1 4 := Option.some.inj (f1.symm.trans k4)
  subst hcA
  have hbz : gB g ≤ H.size := Nat.le_trans hbs z2.1
  refine kk H.size _ z1.fresh wu_eq ?_ H1 locs ls (z1.new hbz ?_ o1 rfl) ⟨Nat.le_trans z2.1 (by omega), fun x h1 h2 => (o1 x (Nat.lt_of_lt_of_le h1 z2.1)).trans (z2.2.1 x h1 h2), z2.2.2⟩ z3
  · intro q x _ hq
    exact (if_neg (Nat.ne_of_lt (z1 q x hq).2.lt)).trans hq
  · exact e1
/-- Object's constructor -/
theorem vv_objInit (hC : Cx g X own cc nL rt rm) {idx a : Nat} (hlink : Cond.methodLink own idx objectInit ∈ fwW) (hdg : decode cc pc = .ok (.invokespecial idx, 3)) (hst : (st.map fun v => v.category).sum ≤ 8) (hfr : 1 ≤ rm.frames) (hlo : 20 ≤ rm.locals) (kk : V g X nL w k n (pc + 3) lv st) : V g X nL w k n pc lv (.ref a :: st) := by
  obtain ⟨p, l, e, R, s, m, args, below, meth, c, Q⟩ := X
  obtain ⟨rfl, rfl, hx, hb, hml, hown, hts, hK, hrt, hlocks, hbs⟩ := hC
  exact fun H locs ls h1 h2 h3 => W.objInit hx hb hown (hts _ hlink) (hts _ lk_i_O_init) (hts _ lk_c_O_init) rfl (h3.1.trans hml.symm) rfl hdg hfr (by show 2 * 0 + _ + 12 ≤ _; omega) (kk H locs ls h1 h2 h3)

theorem vv_iret (hC : Cx g X own cc nL rt rm) {Qp : Option Value → Wd → Prop} {mc ms : Nat} (hR : Rt g X Qp mc ms) {v : Int32} (hrq : rt = some .int) (hdg : decode cc pc = .ok (.ireturn, 1)) (hk : k ≤ mc) (hn : n ≤ ms) (hq : Qp (some (.int v)) w) : V g X nL w k n pc lv [.int v] := by
  obtain ⟨p, l, e, R, s, m, args, below, meth, c, Q⟩ := X
  obtain ⟨rfl, rfl, hx, hb, hml, hown, hts, hK, hrt, hlocks, hbs⟩ := hC
  subst hR
  intro H locs ls h1 h2 h3
  refine W.widen hk hn ?_
  exact W.iret hx hb (hrt.trans hrq) (fun t ht hW => ⟨⟨_, w, rfl, hq, by rw [ht]; exact h1⟩, h2.F ht⟩) (fun q hq => h2.2.2 q hq) hdg hlocks
theorem vv_lret (hC : Cx g X own cc nL rt rm) {Qp : Option Value → Wd → Prop} {mc ms : Nat} (hR : Rt g X Qp mc ms) {v : Int64} (hrq : rt = some .long) (hdg : decode cc pc = .ok (.lreturn, 1)) (hk : k ≤ mc) (hn : n ≤ ms) (hq : Qp (some (.long v)) w) : V g X nL w k n pc lv [.long v] := by
  obtain ⟨p, l, e, R, s, m, args, below, meth, c, Q⟩ := X
  obtain ⟨rfl, rfl, hx, hb, hml, hown, hts, hK, hrt, hlocks, hbs⟩ := hC
  subst hR
  intro H locs ls h1 h2 h3
  refine W.widen hk hn ?_
  exact W.lret hx hb (hrt.trans hrq) (fun t ht hW => ⟨⟨_, w, rfl, hq, by rw [ht]; exact h1⟩, h2.F ht⟩) (fun q hq => h2.2.2 q hq) hdg hlocks
theorem vv_zret (hC : Cx g X own cc nL rt rm) {Qp : Option Value → Wd → Prop} {mc ms : Nat} (hR : Rt g X Qp mc ms) {v : Int32} (hrq : rt = some .boolean) (hv : narrow .boolean (.int v) = .int v) (hdg : decode cc pc = .ok (.ireturn, 1)) (hk : k ≤ mc) (hn : n ≤ ms) (hq : Qp (some (.int v)) w) : V g X nL w k n pc lv [.int v] := by
  obtain ⟨p, l, e, R, s, m, args, below, meth, c, Q⟩ := X
  obtain ⟨rfl, rfl, hx, hb, hml, hown, hts, hK, hrt, hlocks, hbs⟩ := hC
  subst hR
  intro H locs ls h1 h2 h3
  refine W.widen hk hn ?_
  exact W.zret hx hb (hrt.trans hrq) hv (fun t ht hW => ⟨⟨_, w, rfl, hq, by rw [ht]; exact h1⟩, h2.F ht⟩) (fun q hq => h2.2.2 q hq) hdg hlocks
theorem vv_vret (hC : Cx g X own cc nL rt rm) {Qp : Option Value → Wd → Prop} {mc ms : Nat} (hR : Rt g X Qp mc ms) (hrq : rt = none) (hdg : decode cc pc = .ok (.return_, 1)) (hk : k ≤ mc) (hn : n ≤ ms) (hq : Qp none w) : V g X nL w k n pc lv [] := by
  obtain ⟨p, l, e, R, s, m, args, below, meth, c, Q⟩ := X
  obtain ⟨rfl, rfl, hx, hb, hml, hown, hts, hK, hrt, hlocks, hbs⟩ := hC
  subst hR
  intro H locs ls h1 h2 h3
  refine W.widen hk hn ?_
  exact W.vret hx hb (hrt.trans hrq) (fun t ht hW => ⟨⟨_, w, rfl, hq, by rw [ht]; exact h1⟩, h2.F ht⟩) (fun q hq => h2.2.2 q hq) hdg hlocks
theorem vv_aret (hC : Cx g X own cc nL rt rm) {Qp : Option Value → Wd → Prop} {mc ms : Nat} (hR : Rt g X Qp mc ms) {v : Value} {E : String} (hrq : rt = some (.object E)) (hv : v = .null ∨ ∃ a, v = .ref a) (hdg : decode cc pc = .ok (.areturn, 1)) (hk : k ≤ mc) (hn : n ≤ ms) (hq : Qp (some v) w) : V g X nL w k n pc lv [v] := by
  obtain ⟨p, l, e, R, s, m, args, below, meth, c, Q⟩ := X
  obtain ⟨rfl, rfl, hx, hb, hml, hown, hts, hK, hrt, hlocks, hbs⟩ := hC
  subst hR
  intro H locs ls h1 h2 h3
  refine W.widen hk hn ?_
  exact W.aret hx hb (hrt.trans hrq) (Or.inl ⟨_, rfl⟩) hv (fun t ht hW => ⟨⟨_, w, rfl, hq, by rw [ht]; exact h1⟩, h2.F ht⟩) (fun q hq => h2.2.2 q hq) hdg hlocks

/-- what the tables say of a method that is called: its code, and how many arguments it takes -/
def MD (y : MethodName) (b : ByteArray) (nl : Nat) (ret : Option FieldType) (na : Nat) : Prop := Cond.code y b nl ret ∈ fwW ∧ Cond.initialized y.cls ∈ fwW ∧ y.cls ≠ "java/lang/invoke/MethodHandle" ∧ y.cls ≠ "java/lang/invoke/VarHandle" ∧ (parseMethodDescriptor y.desc).map (fun d => d.parameters.length) = some na
theorem fw_pre {w : Wd} {av : List Value} {s : State} {H : Heap} {locs : List Loc} (h1 : wR g w H) (hK : fwK g s) (h2 : va_S (fun q => gB g ≤ q) s.heap H locs) (hbs : gB g ≤ s.heap.size) : FrameBlind (va_Pc av (fun U => wR g w U.heap ∧ fwK g U ∧ gB g ≤ U.heap.size)) ∧ ∀ U : State, U.heap = H → s.WarmedH U.vm → va_Pc av (fun U => wR g w U.heap ∧ fwK g U ∧ gB g ≤ U.heap.size) av.toArray U :=
  ⟨fun a U f mk q => ⟨q.1, q.2.1, fwK_blind q.2.2.1, q.2.2.2⟩, fun U hU hW => ⟨rfl, by rw [hU]; exact h1, fwK_warm hW hK, by rw [hU]; exact Nat.le_trans hbs h2.1⟩⟩
theorem fw_back {p : Program} {l : Launch} {e : Env} {R : Room} {s : State} {m : MethodId} {args : Array Value} {below : List Frame} {meth : Method} {c : Code} {H : Heap} {locs : List Loc} {Q : State → Prop} {ls : Array Slot} {st0 rest : List Value} {a : Array Value} {mc ms : Nat} {Qc : Option Value → Wd → Prop} (hr : va_Run p l e R s m args below meth c H locs k n mc ms (F0 m pc ls st0) rest (CQ g Qc a) (fun q => gB g ≤ q)) (h2 : va_S (fun q => gB g ≤ q) s.heap H locs) (h3 : lv_has ls nL lv)
    (kk : ∀ (r : Option Value) (w2 : Wd), Qc r w2 → ∀ (H : Heap) (locs : List Loc) (ls : Array Slot), wR g w2 H → va_S (fun q => gB g ≤ q) s.heap H locs → lv_has ls nL lv → W p l e R s m args below meth c H locs (k + mc) (n + ms) Q (F0 m (pc + 3) ls (r.toList ++ rest))) : W p l e R s m args below meth c H locs k n Q (F0 m pc ls st0) := by
  intro T hT X
  obtain ⟨v, st₀, t, T', L, h0, X', hL, e1, e2, ⟨⟨r, w2, hv, hq, hw⟩, hz, hk⟩, st⟩ := hr T hT X
  cases hv
  rw [h0] at hz hk
  obtain ⟨t2, a1, b1⟩ := kk v w2 hq T'.heap (locs ++ L) ls (by rw [e1]; exact hw) ⟨Nat.le_trans h2.1 (by rw [e1]; exact hz), fun q z1 z2 => by rw [e1, hk q (Nat.lt_of_lt_of_le z1 h2.1) z2]; exact h2.2.1 q z1 z2, fun q hq => by
      rcases List.mem_append.mp hq with h | h
      · exact h2.2.2 q h
      · exact hL q h⟩ h3 T' rfl X'
  exact ⟨t2, st t2 a1, b1⟩

theorem vv_callS (hC : Cx g X own cc nL rt rm) {y : MethodName} {b : ByteArray} {nl : Nat} {ret : Option FieldType} {fr lo mc ms na idx : Nat} {Qc : Option Value → Wd → Prop} {As rest : List Value} (hdg : decode cc pc = .ok (.invokestatic idx, 3)) (hD : MD y b nl ret na) (hl : Cond.methodLink own idx y ∈ fwW) (hi : Cond.static y ∈ fwW) (hM : CT g y b nl ret fr lo mc ms w As Qc) (hn2 : As.length = na) (hst : st = As.reverse ++ rest) (h8 : (rest.map fun v => v.category).sum ≤ 8) (hrm : fr + 1 ≤ rm.frames ∧ 8 + (nl + 11) + lo ≤ rm.locals ∧ k + mc ≤ rm.cells ∧ n + ms ≤ rm.slots) (kk : ∀ (r : Option Value) (w2 : Wd), Qc r w2 → V g X nL w2 (k + mc) (n + ms) (pc + 3) lv (r.toList ++ rest)) : V g X nL w k n pc lv st := by
  obtain ⟨p, l, e, R, s, m, args, below, meth, c, Q⟩ := X
  obtain ⟨rfl, rfl, hx, hb, hml, hown, hts, hK, hrt, hlocks, hbs⟩ := hC
  intro H locs ls h1 h2 h3
  have hcw : CallB R s args own idx y b nl ret (.code y b nl ret :: fwW) { frames := fr, cells := mc, slots := ms, locals := lo } mc ms na ∧ (Cond.static y).before args s = true := ⟨callB_of na hts (fwW_code hD.1) rfl rfl rfl (hts _ hD.2.1) (hts _ hl) hD.2.2 ⟨hrm.1, hrm.2.1⟩, hts _ hi⟩
  exact fw_back (va_runS (cc := cc) (nL := nL) (own := own) (Ts := fwW) (As := As) (rest := rest) ⟨hx, hb, hml, hown, hts⟩ hM hcw (fw_pre h1 hK h2 hbs) rfl hn2 h3.1 hst (lv_room h8) hdg hrm.2.2) h2 h3 kk
theorem vv_callSN (hC : Cx g X own cc nL rt rm) {host : String} {y : MethodName} {b : ByteArray} {nl : Nat} {ret : Option FieldType} {fr lo mc ms na idx : Nat} {Qc : Option Value → Wd → Prop} {As rest : List Value} (hdg : decode cc pc = .ok (.invokestatic idx, 3)) (hD : MD y b nl ret na) (hl : Cond.methodLinkNest own idx y host ∈ fwN) (hi : Cond.static y ∈ fwW) (hM : CT g y b nl ret fr lo mc ms w As Qc) (hn2 : As.length = na) (hst : st = As.reverse ++ rest) (h8 : (rest.map fun v => v.category).sum ≤ 8) (hrm : fr + 1 ≤ rm.frames ∧ 8 + (nl + 11) + lo ≤ rm.locals ∧ k + mc ≤ rm.cells ∧ n + ms ≤ rm.slots) (kk : ∀ (r : Option Value) (w2 : Wd), Qc r w2 → V g X nL w2 (k + mc) (n + ms) (pc + 3) lv (r.toList ++ rest)) : V g X nL w k n pc lv st := by
  obtain ⟨p, l, e, R, s, m, args, below, meth, c, Q⟩ := X
  obtain ⟨rfl, rfl, hx, hb, hml, hown, hts, hK, hrt, hlocks, hbs⟩ := hC
  intro H locs ls h1 h2 h3
  have hcw : va_CN R s args own idx y host b nl ret (.code y b nl ret :: fwW) { frames := fr, cells := mc, slots := ms, locals := lo } mc ms na ∧ (Cond.static y).before args s = true ∧ True := ⟨va_cnB na hts (fwW_code hD.1) rfl rfl rfl (hK.2.1 _ hl) (hts _ hD.2.1) hD.2.2 ⟨hrm.1, hrm.2.1⟩, hts _ hi, trivial⟩
  exact fw_back (va_runSN (cc := cc) (nL := nL) (own := own) (Ts := fwW) (As := As) (rest := rest) ⟨hx, hb, hml, hown, hts⟩ hM hcw (fw_pre h1 hK h2 hbs) rfl hn2 h3.1 hst (lv_room h8) hdg hrm.2.2) h2 h3 kk
theorem fw_recv {s : State} {H : Heap} {ci a : Nat} {fs : List Value} {C : String} {T : u_T} {N : Nat} (h1 : wR g w H) (hK : fwK g s) (ha : w a = some (.inr (ci, fs))) (hc : vwCl[ci]? = some (C, T, N)) : ∃ cell : Cell, H[a]? = some cell ∧ cell.vm.isStatics = false ∧ s.vm.findClass C = some cell.cls :=
  va_recv (D := g.2.1) (ws := [(a, .inr (ci, fs))]) (q0 := 0) (q := (C, T, N)) hK.1 (fun z q hz => by
    match z, hz with
    | 0, hz => cases hz; exact (h1 a _ ha).2
    | z + 1, hz => simp at hz) hc rfl
theorem vv_callV (hC : Cx g X own cc nL rt rm) {y : MethodName} {b : ByteArray} {nl : Nat} {ret : Option FieldType} {fr lo mc ms na idx : Nat} {Qc : Option Value → Wd → Prop} {As rest : List Value} {ci a : Nat} {fs : List Value} {T : u_T} {N : Nat} (hdg : decode cc pc = .ok (.invokevirtual idx, 3)) (hD : MD y b nl ret na) (hl : Cond.methodLink own idx y ∈ fwW) (hi : Cond.instanceMethod y ∈ fwW) (hs : Cond.selects y.cls y y ∈ fwW) (ha : w a = some (.inr (ci, fs))) (hc : vwCl[ci]? = some (y.cls, T, N)) (hM : CT g y b nl ret fr lo mc ms w (.ref a :: As) Qc) (hn2 : As.length = na) (hst : st = As.reverse ++ .ref a :: rest) (h8 : (rest.map fun v => v.category).sum ≤ 8) (hrm : fr + 1 ≤ rm.frames ∧ 8 + (nl + 11) + lo ≤ rm.locals ∧ k + mc ≤ rm.cells ∧ n + ms ≤ rm.slots) (kk : ∀ (r : Option Value) (w2 : Wd), Qc r w2 → V g X nL w2 (k + mc) (n + ms) (pc + 3) lv (r.toList ++ rest)) : V g X nL w k n pc lv st := by
  obtain ⟨p, l, e, R, s, m, args, below, meth, c, Q⟩ := X
  obtain ⟨rfl, rfl, hx, hb, hml, hown, hts, hK, hrt, hlocks, hbs⟩ := hC
  intro H locs ls h1 h2 h3
  have hcw : CallW R s args own y.cls idx y b nl ret (.code y b nl ret :: fwW) { frames := fr, cells := mc, slots := ms, locals := lo } mc ms na := ⟨callB_of na hts (fwW_code hD.1) rfl rfl rfl (hts _ hD.2.1) (hts _ hl) hD.2.2 ⟨hrm.1, hrm.2.1⟩, hts _ hi, hts _ hs⟩
  have hp := fw_pre (av := .ref a :: As) h1 hK h2 hbs
  exact fw_back (va_runV (cc := cc) (nL := nL) (own := own) (Ts := fwW) (As := As) (rest := rest) ⟨hx, hb, hml, hown, hts⟩ hM hcw ⟨hp.1, fw_recv h1 hK ha hc, hp.2⟩ rfl hn2 h3.1 hst (lv_room h8) hdg hrm.2.2) h2 h3 kk
theorem vv_callVN (hC : Cx g X own cc nL rt rm) {host : String} {y : MethodName} {b : ByteArray} {nl : Nat} {ret : Option FieldType} {fr lo mc ms na idx : Nat} {Qc : Option Value → Wd → Prop} {As rest : List Value} {ci a : Nat} {fs : List Value} {T : u_T} {N : Nat} (hdg : decode cc pc = .ok (.invokevirtual idx, 3)) (hD : MD y b nl ret na) (hl : Cond.methodLinkNest own idx y host ∈ fwN) (hi : Cond.instanceMethod y ∈ fwW) (hs : Cond.selects y.cls y y ∈ fwW) (ha : w a = some (.inr (ci, fs))) (hc : vwCl[ci]? = some (y.cls, T, N)) (hM : CT g y b nl ret fr lo mc ms w (.ref a :: As) Qc) (hn2 : As.length = na) (hst : st = As.reverse ++ .ref a :: rest) (h8 : (rest.map fun v => v.category).sum ≤ 8) (hrm : fr + 1 ≤ rm.frames ∧ 8 + (nl + 11) + lo ≤ rm.locals ∧ k + mc ≤ rm.cells ∧ n + ms ≤ rm.slots) (kk : ∀ (r : Option Value) (w2 : Wd), Qc r w2 → V g X nL w2 (k + mc) (n + ms) (pc + 3) lv (r.toList ++ rest)) : V g X nL w k n pc lv st := by
  obtain ⟨p, l, e, R, s, m, args, below, meth, c, Q⟩ := X
  obtain ⟨rfl, rfl, hx, hb, hml, hown, hts, hK, hrt, hlocks, hbs⟩ := hC
  intro H locs ls h1 h2 h3
  have hcw : va_CN R s args own idx y host b nl ret (.code y b nl ret :: fwW) { frames := fr, cells := mc, slots := ms, locals := lo } mc ms na ∧ (Cond.instanceMethod y).before args s = true ∧ (Cond.selects y.cls y y).before args s = true := ⟨va_cnB na hts (fwW_code hD.1) rfl rfl rfl (hK.2.1 _ hl) (hts _ hD.2.1) hD.2.2 ⟨hrm.1, hrm.2.1⟩, hts _ hi, hts _ hs⟩
  have hp := fw_pre (av := .ref a :: As) h1 hK h2 hbs
  exact fw_back (va_runVN (cc := cc) (nL := nL) (own := own) (Ts := fwW) (As := As) (rest := rest) ⟨hx, hb, hml, hown, hts⟩ hM hcw ⟨hp.1, fw_recv h1 hK ha hc, hp.2⟩ rfl hn2 h3.1 hst (lv_room h8) hdg hrm.2.2) h2 h3 kk
theorem vv_callI (hC : Cx g X own cc nL rt rm) {y : MethodName} {b : ByteArray} {nl fr lo mc ms na idx : Nat} {Qc : Option Value → Wd → Prop} {As rest : List Value} {a : Nat} (hdg : decode cc pc = .ok (.invokespecial idx, 3)) (hD : MD y b nl none na) (hl : Cond.methodLink own idx y ∈ fwW) (hi : Cond.instanceMethod y ∈ fwW) (hy : y.name = "<init>") (hM : CT g y b nl none fr lo mc ms w (.ref a :: As) Qc) (hn2 : As.length = na) (hst : st = As.reverse ++ .ref a :: rest) (h8 : (rest.map fun v => v.category).sum ≤ 8) (hrm : fr + 1 ≤ rm.frames ∧ 8 + (nl + 11) + lo ≤ rm.locals ∧ k + mc ≤ rm.cells ∧ n + ms ≤ rm.slots) (kk : ∀ (r : Option Value) (w2 : Wd), Qc r w2 → V g X nL w2 (k + mc) (n + ms) (pc + 3) lv (r.toList ++ rest)) : V g X nL w k n pc lv st := by
  obtain ⟨p, l, e, R, s, m, args, below, meth, c, Q⟩ := X
  obtain ⟨rfl, rfl, hx, hb, hml, hown, hts, hK, hrt, hlocks, hbs⟩ := hC
  intro H locs ls h1 h2 h3
  have hcw : CallB R s args own idx y b nl none (.code y b nl none :: fwW) { frames := fr, cells := mc, slots := ms, locals := lo } mc ms na ∧ y.name = "<init>" ∧ (Cond.instanceMethod y).before args s = true := ⟨callB_of na hts (fwW_code hD.1) rfl rfl rfl (hts _ hD.2.1) (hts _ hl) hD.2.2 ⟨hrm.1, hrm.2.1⟩, hy, hts _ hi⟩
  exact fw_back (va_runI (cc := cc) (nL := nL) (own := own) (Ts := fwW) (As := As) (rest := rest) ⟨hx, hb, hml, hown, hts⟩ hM hcw (fw_pre (av := .ref a :: As) h1 hK h2 hbs) rfl hn2 h3.1 hst (lv_room h8) hdg hrm.2.2) h2 h3 kk
theorem vv_callIN (hC : Cx g X own cc nL rt rm) {host : String} {y : MethodName} {b : ByteArray} {nl fr lo mc ms na idx : Nat} {Qc : Option Value → Wd → Prop} {As rest : List Value} {a : Nat} (hdg : decode cc pc = .ok (.invokespecial idx, 3)) (hD : MD y b nl none na) (hl : Cond.methodLinkNest own idx y host ∈ fwN) (hi : Cond.instanceMethod y ∈ fwW) (hy : y.name = "<init>") (hM : CT g y b nl none fr lo mc ms w (.ref a :: As) Qc) (hn2 : As.length = na) (hst : st = As.reverse ++ .ref a :: rest) (h8 : (rest.map fun v => v.category).sum ≤ 8) (hrm : fr + 1 ≤ rm.frames ∧ 8 + (nl + 11) + lo ≤ rm.locals ∧ k + mc ≤ rm.cells ∧ n + ms ≤ rm.slots) (kk : ∀ (r : Option Value) (w2 : Wd), Qc r w2 → V g X nL w2 (k + mc) (n + ms) (pc + 3) lv (r.toList ++ rest)) : V g X nL w k n pc lv st := by
  obtain ⟨p, l, e, R, s, m, args, below, meth, c, Q⟩ := X
  obtain ⟨rfl, rfl, hx, hb, hml, hown, hts, hK, hrt, hlocks, hbs⟩ := hC
  intro H locs ls h1 h2 h3
  have hcw : va_CN R s args own idx y host b nl none (.code y b nl none :: fwW) { frames := fr, cells := mc, slots := ms, locals := lo } mc ms na ∧ y.name = "<init>" ∧ (Cond.instanceMethod y).before args s = true := ⟨va_cnB na hts (fwW_code hD.1) rfl rfl rfl (hK.2.1 _ hl) (hts _ hD.2.1) hD.2.2 ⟨hrm.1, hrm.2.1⟩, hy, hts _ hi⟩
  exact fw_back (va_runIN (cc := cc) (nL := nL) (own := own) (Ts := fwW) (As := As) (rest := rest) ⟨hx, hb, hml, hown, hts⟩ hM hcw (fw_pre (av := .ref a :: As) h1 hK h2 hbs) rfl hn2 h3.1 hst (lv_room h8) hdg hrm.2.2) h2 h3 kk

end VV
/-- a contract, from the walk of its body -/
theorem CT.of {g : GT} {y : MethodName} {own : String} {b : ByteArray} {nL : Nat} {ret : Option FieldType} {fr lo mc ms : Nat} {w : Wd} {av : List Value} {Q : Option Value → Wd → Prop} (hy : plainName y.cls = true) (ho : own = y.cls) (hav : (lg_sl av).length ≤ nL)
    (body : ∀ X : CtxT, Cx g X own b nL ret { frames := fr, cells := mc, slots := ms, locals := lo } → Rt g X Q mc ms → (y.name = "<init>" → Ci X) → V g X nL w 0 0 0 (lv_args 0 av) []) : CT g y b nL ret fr lo mc ms w av Q := by
  subst ho
  refine Met.ofW (cc := b) (maxL := nL) (ret := ret) hy rfl ?_
  intro p e s m args below meth c s₁ B hml hv
  obtain ⟨rfl, h1, hK, hbs⟩ := hv
  have hts := atoms_spec (ws := Cond.code y b nL ret :: fwW) B.pre
  have hown : s.vm.findClass y.cls = some m.cls := findClass_of_methodNamed B.named
  have h := body (p, g.1, e, { frames := fr, cells := mc, slots := ms, locals := lo }, s, m, av.toArray, below, meth, c, MQ below (CQ g Q) av.toArray s mc ms (fun q => gB g ≤ q)) ⟨rfl, rfl, B.exec, B.bytes, hml, hown, fun w hw => hts w (List.mem_cons_of_mem _ hw), hK, B.returns, B.notSynchronized, hbs⟩ rfl (fun hn => (name_of_methodNamed B.named B.method).1.trans hn)
  rw [lg_entry_eq]
  exact h s.heap [] _ h1 va_S.rf (lv_entry av hav)

