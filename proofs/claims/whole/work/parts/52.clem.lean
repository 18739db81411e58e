theorem addHouse_v {v : TVi} {p1 p2 : Int32} : gVi_houses (f_X7_addHouse v p1 p2) = gVi_houses v + 1 ∧ gVi_people (f_X7_addHouse v p1 p2) = gVi_people v := ⟨rfl, rfl⟩
theorem addPath_v {v : TVi} {p1 p2 : Int32} {b : Bool} : gVi_houses (f_X7_addPath v p1 p2 b) = gVi_houses v ∧ gVi_people (f_X7_addPath v p1 p2 b) = gVi_people v := ⟨rfl, rfl⟩
theorem addPerson_v {v : TVi} {p1 : Int32} {b : Bool} : gVi_houses (f_X7_addPerson v p1 b) = gVi_houses v ∧ gVi_people (f_X7_addPerson v p1 b) = gVi_people v + 1 := ⟨rfl, rfl⟩
theorem addKin_v {v : TVi} {p1 p2 : Int32} : gVi_houses (f_X7_addKin v p1 p2) = gVi_houses v ∧ gVi_people (f_X7_addKin v p1 p2) = gVi_people v := ⟨rfl, rfl⟩
