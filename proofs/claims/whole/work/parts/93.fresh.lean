/-! what a fresh pair of objects says -/
theorem RR_zero {bs ss : Nat → TN} {kinds moons places values : Nat → Int32} : RR 0 0 (fun _ => 0) zVi zN 0 0 bs ss 0 kinds moons places values (fun _ => 0) (fun _ => 0) (fun _ => 0) (fun _ => 0) (fun _ => 0) (fun _ => 0) (fun _ => 0) (fun _ => 0) (fun _ => 0) := by
  have P := PR_zero (read := fun _ => 0) (readPath := fun _ => 0) (readHome := fun _ => 0) (readKin := fun _ => 0) (fun _ _ => rfl) (fun _ _ => rfl) (fun _ _ => rfl) (fun _ _ => rfl)
  refine ⟨P.1, P.NN, ⟨by omega, by omega, fun k hk => absurd hk (Nat.not_lt_zero k)⟩, fun s hs => ?_, ⟨by omega, fun k hk => absurd hk (Nat.not_lt_zero k)⟩, ⟨by omega, fun k hk => absurd hk (Nat.not_lt_zero k)⟩⟩
  refine ⟨?_, fun z => by rw [hb_zero] at z; cases z⟩
  rw [hb_zero]; rfl
