/-! bits and cells -/
def hb (x : Int32) (i : Nat) : Bool := x.toBitVec.getLsbD i
theorem hb_ext {x y : Int32} (h : ∀ i, i < 32 → hb x i = hb y i) : x = y := Int32.toBitVec_inj.mp (BitVec.eq_of_getLsbD_eq h)
theorem hb_and (x y : Int32) (i : Nat) : hb (x &&& y) i = (hb x i && hb y i) := by unfold hb; rw [Int32.toBitVec_and, BitVec.getLsbD_and]
theorem hb_or (x y : Int32) (i : Nat) : hb (x ||| y) i = (hb x i || hb y i) := by unfold hb; rw [Int32.toBitVec_or, BitVec.getLsbD_or]
theorem hb_big {x : Int32} {i : Nat} (h : 32 ≤ i) : hb x i = false := BitVec.getLsbD_of_ge _ _ h
theorem hb_not (x : Int32) (i : Nat) : hb (x ^^^ (-1)) i = (decide (i < 32) && !hb x i) := by
  by_cases h : i < 32
  · unfold hb
    rw [Int32.toBitVec_xor, BitVec.getLsbD_xor]
    have e : (-1 : Int32).toBitVec = BitVec.allOnes 32 := by decide
    rw [e, BitVec.getLsbD_allOnes]
    simp [h]
  · rw [hb_big (by omega)]; simp [h]
theorem hb_zero (i : Nat) : hb 0 i = false := by
  by_cases h : i < 32
  · exact (show ∀ i, i < 32 → hb 0 i = false by decide) i h
  · exact hb_big (by omega)
theorem sh_nat : ∀ i, i < 32 → (nI i &&& 31).toBitVec.smod 32 = BitVec.ofNat 32 i := by decide +kernel
theorem hb_one : ∀ j, j < 32 → j ≠ 0 → hb 1 j = false := by decide
theorem bitOf_hb {x : Int32} {i : Nat} (h : i < 32) : f_X8_bitOf x (nI i) = (if hb x i = true then 1 else 0) := by
  unfold f_X8_bitOf
  refine hb_ext fun j hj => ?_
  rw [hb_and]
  have e1 : hb (x >>> (nI i &&& 31)) 0 = hb x i := by
    unfold hb
    rw [Int32.toBitVec_shiftRight, sh_nat i h]
    show (x.toBitVec.sshiftRight (BitVec.ofNat 32 i).toNat).getLsbD 0 = _
    rw [BitVec.getLsbD_sshiftRight, BitVec.toNat_ofNat, Nat.mod_eq_of_lt (by omega)]
    simp [h]
  by_cases c : j = 0
  · subst c
    rw [e1]
    cases hb x i <;> decide
  · rw [hb_one j hj c, Bool.and_false]
    split
    · exact (hb_one j hj c).symm
    · exact (hb_zero j).symm
theorem has_hb {x : Int32} {i : Nat} (h : i < 32) : f_X8_has x (nI i) = hb x i := by
  have e := bitOf_hb (x := x) h
  unfold f_X8_bitOf at e
  unfold f_X8_has
  rw [e]
  cases hb x i <;> decide
theorem has9_hb {x : Int32} {i : Nat} (h : i < 32) : f_X9_has x (nI i) = hb x i := has_hb h
theorem hb_bit0 : ∀ j, j < 32 → ∀ i, i < 32 → hb (f_X8_bit (nI j)) i = decide (i = j) := by decide +kernel
theorem hb_bit {j : Nat} (hj : j < 32) (i : Nat) : hb (f_X8_bit (nI j)) i = decide (i = j) := by
  by_cases h : i < 32
  · exact hb_bit0 j hj i h
  · rw [hb_big (by omega)]; exact (decide_eq_false (by omega)).symm
theorem hb_below0 : ∀ n, n ≤ 8 → ∀ i, i < 32 → hb (f_X8_below (nI n)) i = decide (i < n) := by decide +kernel
theorem hb_below {n : Nat} (hn : n ≤ 8) (i : Nat) : hb (f_X8_below (nI n)) i = decide (i < n) := by
  by_cases h : i < 32
  · exact hb_below0 n hn i h
  · rw [hb_big (by omega)]; exact (decide_eq_false (by omega)).symm
theorem hb_255 : ∀ j, j < 32 → hb 255 j = decide (j < 8) := by decide
theorem sh_cell : ∀ i, i < 8 → (((8 * nI i).toInt64.toUInt64 &&& Int64.toUInt64 63).toBitVec % 64).toNat = 8 * i := by decide +kernel
theorem cell_hb {r : Int64} {i : Nat} (h : i < 8) (j : Nat) : hb (f_X8_cell r (nI i)) j = (decide (j < 8) && r.toBitVec.getLsbD (8 * i + j)) := by
  by_cases hj : j < 32
  · unfold f_X8_cell
    rw [hb_and, hb_255 j hj]
    have e1 : hb (lushr r (8 * nI i)).toInt32 j = r.toBitVec.getLsbD (8 * i + j) := by
      unfold hb lushr
      rw [Int64.toBitVec_toInt32, BitVec.getLsbD_signExtend, UInt64.toBitVec_toInt64, UInt64.toBitVec_shiftRight, BitVec.ushiftRight_eq', BitVec.getLsbD_ushiftRight, Int64.toBitVec_toUInt64, sh_cell i h]
      simp [hj, show j < 64 by omega]
    rw [e1, Bool.and_comm]
  · rw [hb_big (by omega), decide_eq_false (by omega), Bool.false_and]
theorem sh_wc : ∀ i, i < 8 → ((8 * nI i).toInt64 &&& 63).toBitVec.smod 64 = BitVec.ofNat 64 (8 * i) := by decide +kernel
theorem lshl_bit {r : Int64} {i k : Nat} (h : i < 8) (hk : k < 64) : (lshl r (8 * nI i)).toBitVec.getLsbD k = (decide (8 * i ≤ k) && r.toBitVec.getLsbD (k - 8 * i)) := by
  unfold lshl
  rw [Int64.toBitVec_shiftLeft, sh_wc i h, BitVec.shiftLeft_eq', BitVec.getLsbD_shiftLeft, BitVec.toNat_ofNat, Nat.mod_eq_of_lt (by omega)]
  by_cases c : 8 * i ≤ k
  · simp [hk, c, show ¬ k < 8 * i by omega]
  · simp [c, show k < 8 * i by omega]
theorem l255 : ∀ m, m < 64 → (255 : Int64).toBitVec.getLsbD m = decide (m < 8) := by decide +kernel
theorem v255 {v : Int32} {m : Nat} (hm : m < 64) : ((v &&& 255).toInt64).toBitVec.getLsbD m = (decide (m < 8) && hb v m) := by
  rw [Int32.toBitVec_toInt64, BitVec.getLsbD_signExtend]
  have e : ∀ j, j < 32 → (v &&& 255).toBitVec.getLsbD j = (decide (j < 8) && hb v j) := fun j hj => by
    have := hb_and v 255 j
    rw [hb_255 j hj, Bool.and_comm] at this
    exact this
  have hmsb : (v &&& 255).toBitVec.msb = false := by
    rw [BitVec.msb_eq_getLsbD_last]
    rw [e 31 (by omega)]
    rfl
  by_cases c : m < 32
  · rw [if_pos c, e m c, decide_eq_true hm, Bool.true_and]
  · rw [if_neg c, hmsb, Bool.and_false, decide_eq_false (show ¬ m < 8 by omega), Bool.false_and]
theorem wc_bit {r : Int64} {v : Int32} {i k : Nat} (h : i < 8) (hk : k < 64) : (f_X8_withCell r (nI i) v).toBitVec.getLsbD k = (if 8 * i ≤ k ∧ k < 8 * i + 8 then hb v (k - 8 * i) else r.toBitVec.getLsbD k) := by
  unfold f_X8_withCell
  rw [Int64.toBitVec_or, BitVec.getLsbD_or, Int64.toBitVec_and, BitVec.getLsbD_and, Int64.toBitVec_xor, BitVec.getLsbD_xor, lshl_bit h hk, lshl_bit h hk, l255 _ (by omega), v255 (by omega)]
  have e : (-1 : Int64).toBitVec = BitVec.allOnes 64 := by decide
  rw [e, BitVec.getLsbD_allOnes]
  by_cases c1 : 8 * i ≤ k
  · by_cases c2 : k < 8 * i + 8
    · rw [if_pos ⟨c1, c2⟩]
      simp [c1, hk, show k - 8 * i < 8 by omega]
    · rw [if_neg (by omega)]
      simp [c1, hk, show ¬ k - 8 * i < 8 by omega]
  · rw [if_neg (by omega)]
    simp [c1, hk]
theorem cell_wc {r : Int64} {v : Int32} {i j : Nat} (hi : i < 8) (hj : j < 8) : f_X8_cell (f_X8_withCell r (nI i) v) (nI j) = (if i = j then v &&& 255 else f_X8_cell r (nI j)) := by
  refine hb_ext fun k hk => ?_
  rw [cell_hb hj]
  by_cases c : k < 8
  · rw [wc_bit hi (by omega)]
    by_cases e : i = j
    · subst e
      rw [if_pos rfl, if_pos (by omega), hb_and, hb_255 k hk]
      simp [c, show 8 * i + k - 8 * i = k by omega]
    · rw [if_neg e, if_neg (by omega), cell_hb hj]
  · by_cases e : i = j
    · subst e
      rw [if_pos rfl, hb_and, hb_255 k hk]
      simp [c]
    · rw [if_neg e, cell_hb hj]
      simp [c]
theorem nI_toNat (x : Int32) : nI x.toBitVec.toNat = x := Int32.toBitVec_inj.mp (by
  show BitVec.ofNat 32 x.toBitVec.toNat = x.toBitVec
  rw [BitVec.ofNat_toNat, BitVec.setWidth_eq])
/-- the number in a cell -/
def cn (r : Int64) (i : Nat) : Nat := (f_X8_cell r (nI i)).toBitVec.toNat
theorem cell_cn (r : Int64) (i : Nat) : f_X8_cell r (nI i) = nI (cn r i) := (nI_toNat _).symm
theorem and255 (x : Int32) : (x &&& 255).toBitVec.toNat < 256 := by
  rw [Int32.toBitVec_and, BitVec.toNat_and]
  exact Nat.lt_of_le_of_lt (Nat.and_le_right) (by decide)
theorem cn_lt (r : Int64) (i : Nat) : cn r i < 256 := and255 _
theorem and255_id {n : Nat} (h : n < 256) : nI n &&& 255 = nI n := by
  have := fa_mask n 8
  rw [show (255 : Int32) = nI (2 ^ 8 - 1) from rfl, this, Nat.mod_eq_of_lt h]
theorem cn_wc {r : Int64} {i j n : Nat} (hi : i < 8) (hj : j < 8) (hn : n < 256) : cn (f_X8_withCell r (nI i) (nI n)) j = (if i = j then n else cn r j) := by
  have e := cell_wc (r := r) (v := nI n) hi hj
  rw [and255_id hn, cell_cn, cell_cn] at e
  have h1 := cn_lt (f_X8_withCell r (nI i) (nI n)) j
  have h2 := cn_lt r j
  by_cases c : i = j
  · rw [if_pos c] at e ⊢
    exact (nI_eq_ (by omega) (by omega)).mp e
  · rw [if_neg c] at e ⊢
    exact (nI_eq_ (by omega) (by omega)).mp e
theorem cn_zero : ∀ i, i < 8 → cn 0 i = 0 := by decide +kernel
