theorem rHouse_v {pl : Int32} {v : TVi} {tl : Nat} {by_ : Nat → Int32} (h4 : gVi_houses v ≤ 4) (h6 : gVi_people v ≤ 6) : gVi_houses (f_X3_readHouse pl v tl by_).2.2 ≤ 4 ∧ gVi_people (f_X3_readHouse pl v tl by_).2.2 ≤ 6 := by
  unfold f_X3_readHouse
  (repeat' split) <;> dsimp only <;> first | exact ⟨h4, h6⟩ | exact ⟨by rw [addHouse_v.1]; omega, by rw [addHouse_v.2]; omega⟩
theorem rPerson_v {pl : Int32} {v : TVi} {tl : Nat} {by_ : Nat → Int32} (h4 : gVi_houses v ≤ 4) (h6 : gVi_people v ≤ 6) : gVi_houses (f_X3_readPerson pl v tl by_).2.2 ≤ 4 ∧ gVi_people (f_X3_readPerson pl v tl by_).2.2 ≤ 6 := by
  unfold f_X3_readPerson
  (repeat' split) <;> dsimp only <;> first | exact ⟨h4, h6⟩ | exact ⟨by rw [addPerson_v.1]; omega, by rw [addPerson_v.2]; omega⟩
theorem rPath_v {pl a b : Int32} {v : TVi} {tl : Nat} {by_ : Nat → Int32} (h4 : gVi_houses v ≤ 4) (h6 : gVi_people v ≤ 6) : gVi_houses (f_X3_readPath pl a b v tl by_).2.2.2.2 ≤ 4 ∧ gVi_people (f_X3_readPath pl a b v tl by_).2.2.2.2 ≤ 6 := by
  unfold f_X3_readPath
  (repeat' split) <;> dsimp only <;> first | exact ⟨h4, h6⟩ | exact ⟨by rw [addPath_v.1]; omega, by rw [addPath_v.2]; omega⟩
theorem rKin_v {pl a b : Int32} {v : TVi} {tl : Nat} {by_ : Nat → Int32} (h4 : gVi_houses v ≤ 4) (h6 : gVi_people v ≤ 6) : gVi_houses (f_X3_readKin pl a b v tl by_).2.2.2.2 ≤ 4 ∧ gVi_people (f_X3_readKin pl a b v tl by_).2.2.2.2 ≤ 6 := by
  unfold f_X3_readKin
  (repeat' split) <;> dsimp only <;> first | exact ⟨h4, h6⟩ | exact ⟨by rw [addKin_v.1]; omega, by rw [addKin_v.2]; omega⟩
theorem rPart_v {pl a b : Int32} {v : TVi} {tl : Nat} {by_ : Nat → Int32} (h4 : gVi_houses v ≤ 4) (h6 : gVi_people v ≤ 6) : gVi_houses (f_X3_readPart pl a b tl by_ v).2.2.2.2 ≤ 4 ∧ gVi_people (f_X3_readPart pl a b tl by_ v).2.2.2.2 ≤ 6 := by
  unfold f_X3_readPart
  (repeat' split) <;> dsimp only <;> first | exact rHouse_v h4 h6 | exact rPerson_v h4 h6 | exact rPath_v h4 h6 | exact rKin_v h4 h6 | exact ⟨h4, h6⟩
