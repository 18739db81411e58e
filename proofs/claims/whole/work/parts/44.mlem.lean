theorem takes_le {size at_ : Nat} {text : Nat → Int32} {most : Int32} (ha : at_ ≤ 96) (hs : size ≤ 96) : at_ ≤ (f_X9_takes size at_ text most).2 ∧ (f_X9_takes size at_ text most).2 ≤ 96 := by
  by_cases h : (f_X9_takes size at_ text most).1 = true
  · have := takes_b h
    omega
  · have h2 : ¬ f_X9_in ((f_X9_peek size at_ text).toInt64) 0 most.toInt64 = true := h
    simp only [f_X9_takes, if_neg h2]
    omega
theorem readHouse_b {size at_ rh : Nat} {text read : Nat → Int32} (ha : at_ ≤ 96) (hs : size ≤ 96) : at_ ≤ (f_X9_readHouse size at_ rh text read).2.1 ∧ (f_X9_readHouse size at_ rh text read).2.1 ≤ 96 ∧ rh ≤ (f_X9_readHouse size at_ rh text read).2.2.1 ∧ (f_X9_readHouse size at_ rh text read).2.2.1 ≤ rh + 1 := by
  have h1 := takes_le (text := text) (most := 9) ha hs
  have h2 := takes_le (text := text) (most := 2) h1.2 hs
  unfold f_X9_readHouse
  (repeat' split) <;> (dsimp only; omega)
theorem readPerson_b {size at_ rh rp : Nat} {text home read : Nat → Int32} (ha : at_ ≤ 96) (hs : size ≤ 96) : at_ ≤ (f_X9_readPerson size at_ rh rp text home read).2.1 ∧ (f_X9_readPerson size at_ rh rp text home read).2.1 ≤ 96 ∧ rp ≤ (f_X9_readPerson size at_ rh rp text home read).2.2.1 ∧ (f_X9_readPerson size at_ rh rp text home read).2.2.1 ≤ rp + 1 := by
  have h1 := takes_le (text := text) (most := nI rh - 1) ha hs
  have h2 := takes_le (text := text) (most := 1) h1.2 hs
  unfold f_X9_readPerson
  (repeat' split) <;> (dsimp only; omega)
theorem readWay_b {size at_ rh rw_ : Nat} {text path : Nat → Int32} (ha : at_ ≤ 96) (hs : size ≤ 96) : at_ ≤ (f_X9_readWay size at_ rh rw_ text path).2.1 ∧ (f_X9_readWay size at_ rh rw_ text path).2.1 ≤ 96 := by
  by_cases c1 : f_X9_in ((f_X9_peek size at_ text).toInt64) 0 ((nI rh - 1).toInt64) = true
  · have a1 := (peek_in c1).1
    by_cases c2 : f_X9_in ((f_X9_peek size (at_ + 1) text).toInt64) 0 ((nI rh - 1).toInt64) = true
    · have a2 := (peek_in c2).1
      have h3 := takes_le (text := text) (at_ := at_ + 1 + 1) (most := 1) (by omega) hs
      simp only [f_X9_readWay, if_pos c1, if_pos c2]
      (repeat' split) <;> (dsimp only; omega)
    · simp only [f_X9_readWay, if_pos c1, if_neg c2]
      (repeat' split) <;> (dsimp only; omega)
  · simp only [f_X9_readWay, if_neg c1]
    omega
theorem readTwo_b {size at_ rp : Nat} {text kin : Nat → Int32} (ha : at_ ≤ 96) (hs : size ≤ 96) : at_ ≤ (f_X9_readTwo size at_ rp text kin).2.1 ∧ (f_X9_readTwo size at_ rp text kin).2.1 ≤ 96 := by
  by_cases c1 : f_X9_in ((f_X9_peek size at_ text).toInt64) 0 ((nI rp - 1).toInt64) = true
  · have a1 := (peek_in c1).1
    by_cases c2 : f_X9_in ((f_X9_peek size (at_ + 1) text).toInt64) 0 ((nI rp - 1).toInt64) = true
    · have a2 := (peek_in c2).1
      simp only [f_X9_readTwo, if_pos c1, if_pos c2]
      (repeat' split) <;> (dsimp only; omega)
    · simp only [f_X9_readTwo, if_pos c1, if_neg c2]
      (repeat' split) <;> (dsimp only; omega)
  · simp only [f_X9_readTwo, if_neg c1]
    omega
theorem readPart_b {size at_ rh rp rw_ : Nat} {text kin path read home : Nat → Int32} (ha : at_ < size) (hs : size ≤ 96) (h4 : rh ≤ 4) (h6 : rp ≤ 6) :
    at_ ≤ (f_X9_readPart size at_ rh rp rw_ text kin path read home).2.1 ∧ (f_X9_readPart size at_ rh rp rw_ text kin path read home).2.1 ≤ 96 ∧ (f_X9_readPart size at_ rh rp rw_ text kin path read home).2.2.1 ≤ 4 ∧ (f_X9_readPart size at_ rh rp rw_ text kin path read home).2.2.2.1 ≤ 6 ∧ ((f_X9_readPart size at_ rh rp rw_ text kin path read home).1 = true → at_ + 1 ≤ (f_X9_readPart size at_ rh rp rw_ text kin path read home).2.1) := by
  by_cases c0 : f_X9_readPart_x1 at_ rh rp text kin path = true
  · have b1 := readHouse_b (rh := rh) (text := text) (read := read) (at_ := at_ + 1) (by omega) hs
    have b2 := readPerson_b (rh := rh) (rp := rp) (text := text) (home := home) (read := read) (at_ := at_ + 1) (by omega) hs
    have b3 := readWay_b (rh := rh) (rw_ := rw_) (text := text) (path := path) (at_ := at_ + 1) (by omega) hs
    have b4 := readTwo_b (rp := rp) (text := text) (kin := kin) (at_ := at_ + 1) (by omega) hs
    have k1 : text at_ = 72 → rh < 4 := fun h => by simp [f_X9_readPart_x1, h] at c0; omega
    have k2 : text at_ = 80 → rp < 6 := fun h => by simp [f_X9_readPart_x1, h] at c0; omega
    simp only [f_X9_readPart, if_pos c0]
    split
    · have := k1 (by assumption)
      dsimp only
      exact ⟨by omega, by omega, by omega, by omega, fun _ => by omega⟩
    · split
      · have := k2 (by assumption)
        dsimp only
        exact ⟨by omega, by omega, by omega, by omega, fun _ => by omega⟩
      · split
        · dsimp only
          exact ⟨by omega, by omega, by omega, by omega, fun _ => by omega⟩
        · dsimp only
          exact ⟨by omega, by omega, by omega, by omega, fun _ => by omega⟩
  · simp only [f_X9_readPart, if_neg c0]
    exact ⟨by omega, by omega, h4, h6, fun h => by cases h⟩
