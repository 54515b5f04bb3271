theorem bz_01 {x : Int32} (h : x &&& 1 = x) : x = 0 ∨ x = 1 := by
  have h1 := pk_and x (m := 1) 1 (by decide)
  rw [h] at h1
  rcases Nat.mod_two_eq_zero_or_one x.toBitVec.toNat with h2 | h2
  · left
    rw [show (2 : Nat) ^ 1 = 2 from rfl, h2] at h1
    exact h1
  · right
    rw [show (2 : Nat) ^ 1 = 2 from rfl, h2] at h1
    exact h1
theorem bz_fits {x : Int32} (h : x &&& 1 = x) : fits .boolean (.int x) = true := by
  rcases bz_01 h with rfl | rfl <;> rfl
