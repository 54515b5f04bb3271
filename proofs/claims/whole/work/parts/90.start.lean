theorem v0C_z {c j : Nat} (h : c < 37 ∨ 55 ≤ c) (h1 : c ≠ 1) : v0C c j = 0 := by
  unfold v0C
  rw [if_neg h1]
  by_cases e : 37 ≤ c
  · rw [if_pos e, if_neg (by omega)]
  · rw [if_neg e]
theorem v0M_z {c j : Nat} (h : c ≠ 0) : v0M c j = 0 := by
  unfold v0M
  rw [if_neg h]
theorem v0C_s : ∀ k, k < 18 → v0C (37 + k) 0 = nI k ∧ v0C (37 + k) 1 = 0 ∧ v0C (37 + k) 2 = 0 ∧ v0C (37 + k) 3 = 0 ∧ v0C (37 + k) 6 = 0 ∧ v0C (37 + k) 4 = 10 ∧ v0C (37 + k) 5 = 10 := by decide +kernel
theorem inv_0 : Inv v0C v0M := by
  refine ⟨0, 0, 1, 0, 0, ⟨⟨rfl, rfl, by omega⟩, ⟨rfl, rfl, by omega⟩, ⟨rfl, rfl, by omega⟩, ⟨rfl, rfl, by omega⟩, rfl, rfl, rfl, rfl, rfl⟩, fun k hk => ?_, fun p hp => ?_, fun a ha b hb => ?_, fun s hs => ?_, ⟨⟨rfl, rfl, by omega⟩, fun i j _ h => by omega, fun t => rfl, fun e he => by omega⟩, ⟨0, by omega, rfl, rfl, fun i hi => by omega⟩⟩
  · obtain ⟨s0, s1, s2, s3, s6, s4, s5⟩ := v0C_s k hk
    rw [v0M_z (by omega), v0M_z (by omega), v0M_z (by omega), v0M_z (by omega)]
    exact ⟨s0, s1, s2, s3, s6, fun h => by omega, fun _ => ⟨s4, s5, rfl⟩, ⟨0, by omega, by omega, rfl⟩, ⟨0, by omega, by omega, rfl⟩, ⟨0, by omega, by omega, rfl⟩⟩
  · rw [v0M_z (by omega), v0M_z (by omega), v0M_z (by omega), v0M_z (by omega)]
    exact ⟨v0C_z (by omega) (by omega), v0C_z (by omega) (by omega), v0C_z (by omega) (by omega), v0C_z (by omega) (by omega), ⟨0, by omega, by omega, rfl⟩, ⟨0, by omega, by omega, rfl⟩⟩
  · rw [v0M_z (by omega)]
    exact ⟨v0C_z (by omega) (by omega), ⟨0, by omega, by omega, rfl⟩, fun _ => rfl⟩
  · exact ⟨fun h => by omega, fun g _ => by rw [v0M_z (by omega)]; exact v0C_z (by omega) (by omega), fun _ g _ => v0M_z (by omega), v0C_z (by omega) (by omega)⟩
