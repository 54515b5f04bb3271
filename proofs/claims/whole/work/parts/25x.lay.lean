theorem vq {D : va_G} {q n : Nat} {cA : ClassId} {f g : Nat → Option Nat} {H : Heap} (h : va_at D vwCl (q, .inl (cA, n, .inr (.inr (.inr (.inr f))))) H) (hfg : ∀ j, j < n → f j = g j) : va_at D vwCl (q, .inl (cA, n, .inr (.inr (.inr (.inr g))))) H := by
  have h1 : H[q]? = some (vp_cell cA (n, .inr (.inr (.inr (.inr f))))) := h
  show H[q]? = some (vp_cell cA (n, .inr (.inr (.inr (.inr g)))))
  rw [h1, vp_cell_q, vp_cell_q]
  exact congrArg some (arrV_congr (fun j hj => by rw [hfg j hj]))
def adC_of (h0 : Nat) (a : List Nat → Nat) (c : Nat) : Nat := ([h0, (a [4]), (a [0, 12]), (a [0, 13]), (a [0, 14]), (a [0, 6, 0]), (a [0, 6, 1]), (a [0, 6, 2]), (a [5]), (a [6]), (a [7]), (a [8]), (a [7, 6]), (a [7, 7]), (a [7, 8]), (a [9]), (a [8, 4]), (a [8, 5]), (a [8, 12]), (a [8, 6]), (a [8, 7]), (a [8, 8]), (a [8, 9]), (a [8, 10]), (a [8, 11]), (a [0, 0]), (a [0, 1]), (a [0, 2]), (a [0, 3]), (a [0, 4]), (a [0, 5]), (a [0, 0, 3]), (a [0, 1, 3]), (a [0, 2, 3]), (a [0, 3, 3]), (a [0, 4, 3]), (a [0, 5, 3]), (a [0, 0, 0]), (a [0, 0, 1]), (a [0, 0, 2]), (a [0, 1, 0]), (a [0, 1, 1]), (a [0, 1, 2]), (a [0, 2, 0]), (a [0, 2, 1]), (a [0, 2, 2]), (a [0, 3, 0]), (a [0, 3, 1]), (a [0, 3, 2]), (a [0, 4, 0]), (a [0, 4, 1]), (a [0, 4, 2]), (a [0, 5, 0]), (a [0, 5, 1]), (a [0, 5, 2]), (a [0, 6]), (a [0, 7]), (a [0, 8]), (a [0, 9]), (a [0, 10]), (a [0, 11]), (a [7, 0]), (a [7, 1]), (a [7, 2]), (a [7, 3]), (a [7, 4]), (a [7, 5]), (a [0]), (a [1]), (a [2]), (a [3]), (a [1, 0]), (a [2, 0]), (a [3, 0]), (a [4, 0]), (a [8, 0]), (a [8, 1]), (a [8, 2]), (a [8, 3]), (a [8, 2, 0]), (a [8, 3, 0]), (a [8, 4, 0]), (a [8, 5, 0]), (a [8, 2, 1]), (a [8, 3, 1]), (a [8, 4, 1]), (a [8, 5, 1]), (a [8, 2, 2]), (a [8, 3, 2]), (a [8, 4, 2]), (a [8, 5, 2])] : List Nat).getD c 0
def posC (c : Nat) : Nat := ([0, 1, 49, 50, 57, 58, 59, 60, 2, 3, 4, 5, 32, 39, 40, 6, 7, 8, 15, 9, 10, 11, 12, 13, 14, 86, 81, 76, 71, 66, 61, 87, 82, 77, 72, 67, 62, 90, 89, 88, 85, 84, 83, 80, 79, 78, 75, 74, 73, 70, 69, 68, 65, 64, 63, 51, 52, 53, 54, 55, 56, 33, 34, 35, 36, 37, 38, 47, 45, 43, 41, 48, 46, 44, 42, 28, 24, 20, 16, 29, 25, 21, 17, 30, 26, 22, 18, 31, 27, 23, 19] : List Nat).getD c 0
def v0C : VV := fun c j => if c = 1 then (if j = 5 then 1 else 0) else if 37 ≤ c then (if c < 55 then (if j = 0 then ([(0 * 3) + 0, (0 * 3) + 1, (0 * 3) + 2, (1 * 3) + 0, (1 * 3) + 1, (1 * 3) + 2, (2 * 3) + 0, (2 * 3) + 1, (2 * 3) + 2, (3 * 3) + 0, (3 * 3) + 1, (3 * 3) + 2, (4 * 3) + 0, (4 * 3) + 1, (4 * 3) + 2, (5 * 3) + 0, (5 * 3) + 1, (5 * 3) + 2] : List Int32).getD (c - 37) 0 else if j = 4 then 10 else if j = 5 then 10 else 0) else 0) else 0
theorem posC_inj : ∀ i, i < 91 → ∀ j, j < 91 → posC i = posC j → i = j := by decide +kernel
set_option maxRecDepth 100000 in
set_option maxHeartbeats 4000000 in
theorem atC_of (cy : Nat → ClassId) (h0 : Nat) (a : List Nat → Nat) : ∀ c, c < 91 → ∃ e, (cel_X10 cy h0 a)[posC c]? = some (adC_of h0 a c, e)
  | 0, _ => ⟨_, rfl⟩
  | 1, _ => ⟨_, rfl⟩
  | 2, _ => ⟨_, rfl⟩
  | 3, _ => ⟨_, rfl⟩
  | 4, _ => ⟨_, rfl⟩
  | 5, _ => ⟨_, rfl⟩
  | 6, _ => ⟨_, rfl⟩
  | 7, _ => ⟨_, rfl⟩
  | 8, _ => ⟨_, rfl⟩
  | 9, _ => ⟨_, rfl⟩
  | 10, _ => ⟨_, rfl⟩
  | 11, _ => ⟨_, rfl⟩
  | 12, _ => ⟨_, rfl⟩
  | 13, _ => ⟨_, rfl⟩
  | 14, _ => ⟨_, rfl⟩
  | 15, _ => ⟨_, rfl⟩
  | 16, _ => ⟨_, rfl⟩
  | 17, _ => ⟨_, rfl⟩
  | 18, _ => ⟨_, rfl⟩
  | 19, _ => ⟨_, rfl⟩
  | 20, _ => ⟨_, rfl⟩
  | 21, _ => ⟨_, rfl⟩
  | 22, _ => ⟨_, rfl⟩
  | 23, _ => ⟨_, rfl⟩
  | 24, _ => ⟨_, rfl⟩
  | 25, _ => ⟨_, rfl⟩
  | 26, _ => ⟨_, rfl⟩
  | 27, _ => ⟨_, rfl⟩
  | 28, _ => ⟨_, rfl⟩
  | 29, _ => ⟨_, rfl⟩
  | 30, _ => ⟨_, rfl⟩
  | 31, _ => ⟨_, rfl⟩
  | 32, _ => ⟨_, rfl⟩
  | 33, _ => ⟨_, rfl⟩
  | 34, _ => ⟨_, rfl⟩
  | 35, _ => ⟨_, rfl⟩
  | 36, _ => ⟨_, rfl⟩
  | 37, _ => ⟨_, rfl⟩
  | 38, _ => ⟨_, rfl⟩
  | 39, _ => ⟨_, rfl⟩
  | 40, _ => ⟨_, rfl⟩
  | 41, _ => ⟨_, rfl⟩
  | 42, _ => ⟨_, rfl⟩
  | 43, _ => ⟨_, rfl⟩
  | 44, _ => ⟨_, rfl⟩
  | 45, _ => ⟨_, rfl⟩
  | 46, _ => ⟨_, rfl⟩
  | 47, _ => ⟨_, rfl⟩
  | 48, _ => ⟨_, rfl⟩
  | 49, _ => ⟨_, rfl⟩
  | 50, _ => ⟨_, rfl⟩
  | 51, _ => ⟨_, rfl⟩
  | 52, _ => ⟨_, rfl⟩
  | 53, _ => ⟨_, rfl⟩
  | 54, _ => ⟨_, rfl⟩
  | 55, _ => ⟨_, rfl⟩
  | 56, _ => ⟨_, rfl⟩
  | 57, _ => ⟨_, rfl⟩
  | 58, _ => ⟨_, rfl⟩
  | 59, _ => ⟨_, rfl⟩
  | 60, _ => ⟨_, rfl⟩
  | 61, _ => ⟨_, rfl⟩
  | 62, _ => ⟨_, rfl⟩
  | 63, _ => ⟨_, rfl⟩
  | 64, _ => ⟨_, rfl⟩
  | 65, _ => ⟨_, rfl⟩
  | 66, _ => ⟨_, rfl⟩
  | 67, _ => ⟨_, rfl⟩
  | 68, _ => ⟨_, rfl⟩
  | 69, _ => ⟨_, rfl⟩
  | 70, _ => ⟨_, rfl⟩
  | 71, _ => ⟨_, rfl⟩
  | 72, _ => ⟨_, rfl⟩
  | 73, _ => ⟨_, rfl⟩
  | 74, _ => ⟨_, rfl⟩
  | 75, _ => ⟨_, rfl⟩
  | 76, _ => ⟨_, rfl⟩
  | 77, _ => ⟨_, rfl⟩
  | 78, _ => ⟨_, rfl⟩
  | 79, _ => ⟨_, rfl⟩
  | 80, _ => ⟨_, rfl⟩
  | 81, _ => ⟨_, rfl⟩
  | 82, _ => ⟨_, rfl⟩
  | 83, _ => ⟨_, rfl⟩
  | 84, _ => ⟨_, rfl⟩
  | 85, _ => ⟨_, rfl⟩
  | 86, _ => ⟨_, rfl⟩
  | 87, _ => ⟨_, rfl⟩
  | 88, _ => ⟨_, rfl⟩
  | 89, _ => ⟨_, rfl⟩
  | 90, _ => ⟨_, rfl⟩
  | c + 91, h => absurd h (by omega)
set_option maxRecDepth 100000 in
set_option maxHeartbeats 4000000 in
theorem wdC_of {D : va_G} {cy : Nat → ClassId} {h0 : Nat} {a : List Nat → Nat} {H : Heap} (h : va_P D vwCl (cel_X10 cy h0 a) H) : ∀ c, c < 91 → va_at D vwCl (adC_of h0 a c, wd_e LC cy (adC_of h0 a) v0C c) H
  | 0, _ => h 0 _ rfl
  | 1, _ => h 1 _ rfl
  | 2, _ => vq (h 49 _ rfl) (fun j hj => by have hj : j < 6 := hj; rcases (show j = 0 ∨ j = 1 ∨ j = 2 ∨ j = 3 ∨ j = 4 ∨ j = 5 by omega) with rfl | rfl | rfl | rfl | rfl | rfl <;> rfl)
  | 3, _ => vq (h 50 _ rfl) (fun j hj => by have hj : j < 6 := hj; rcases (show j = 0 ∨ j = 1 ∨ j = 2 ∨ j = 3 ∨ j = 4 ∨ j = 5 by omega) with rfl | rfl | rfl | rfl | rfl | rfl <;> rfl)
  | 4, _ => h 57 _ rfl
  | 5, _ => h 58 _ rfl
  | 6, _ => h 59 _ rfl
  | 7, _ => h 60 _ rfl
  | 8, _ => vq (h 2 _ rfl) (fun j hj => by have hj : j < 4 := hj; rcases (show j = 0 ∨ j = 1 ∨ j = 2 ∨ j = 3 by omega) with rfl | rfl | rfl | rfl <;> rfl)
  | 9, _ => h 3 _ rfl
  | 10, _ => h 4 _ rfl
  | 11, _ => h 5 _ rfl
  | 12, _ => vq (h 32 _ rfl) (fun j hj => by have hj : j < 6 := hj; rcases (show j = 0 ∨ j = 1 ∨ j = 2 ∨ j = 3 ∨ j = 4 ∨ j = 5 by omega) with rfl | rfl | rfl | rfl | rfl | rfl <;> rfl)
  | 13, _ => h 39 _ rfl
  | 14, _ => h 40 _ rfl
  | 15, _ => h 6 _ rfl
  | 16, _ => h 7 _ rfl
  | 17, _ => h 8 _ rfl
  | 18, _ => vq (h 15 _ rfl) (fun j hj => by have hj : j < 4 := hj; rcases (show j = 0 ∨ j = 1 ∨ j = 2 ∨ j = 3 by omega) with rfl | rfl | rfl | rfl <;> rfl)
  | 19, _ => h 9 _ rfl
  | 20, _ => h 10 _ rfl
  | 21, _ => h 11 _ rfl
  | 22, _ => h 12 _ rfl
  | 23, _ => h 13 _ rfl
  | 24, _ => h 14 _ rfl
  | 25, _ => h 86 _ rfl
  | 26, _ => h 81 _ rfl
  | 27, _ => h 76 _ rfl
  | 28, _ => h 71 _ rfl
  | 29, _ => h 66 _ rfl
  | 30, _ => h 61 _ rfl
  | 31, _ => vq (h 87 _ rfl) (fun j hj => by have hj : j < 3 := hj; rcases (show j = 0 ∨ j = 1 ∨ j = 2 by omega) with rfl | rfl | rfl <;> rfl)
  | 32, _ => vq (h 82 _ rfl) (fun j hj => by have hj : j < 3 := hj; rcases (show j = 0 ∨ j = 1 ∨ j = 2 by omega) with rfl | rfl | rfl <;> rfl)
  | 33, _ => vq (h 77 _ rfl) (fun j hj => by have hj : j < 3 := hj; rcases (show j = 0 ∨ j = 1 ∨ j = 2 by omega) with rfl | rfl | rfl <;> rfl)
  | 34, _ => vq (h 72 _ rfl) (fun j hj => by have hj : j < 3 := hj; rcases (show j = 0 ∨ j = 1 ∨ j = 2 by omega) with rfl | rfl | rfl <;> rfl)
  | 35, _ => vq (h 67 _ rfl) (fun j hj => by have hj : j < 3 := hj; rcases (show j = 0 ∨ j = 1 ∨ j = 2 by omega) with rfl | rfl | rfl <;> rfl)
  | 36, _ => vq (h 62 _ rfl) (fun j hj => by have hj : j < 3 := hj; rcases (show j = 0 ∨ j = 1 ∨ j = 2 by omega) with rfl | rfl | rfl <;> rfl)
  | 37, _ => h 90 _ rfl
  | 38, _ => h 89 _ rfl
  | 39, _ => h 88 _ rfl
  | 40, _ => h 85 _ rfl
  | 41, _ => h 84 _ rfl
  | 42, _ => h 83 _ rfl
  | 43, _ => h 80 _ rfl
  | 44, _ => h 79 _ rfl
  | 45, _ => h 78 _ rfl
  | 46, _ => h 75 _ rfl
  | 47, _ => h 74 _ rfl
  | 48, _ => h 73 _ rfl
  | 49, _ => h 70 _ rfl
  | 50, _ => h 69 _ rfl
  | 51, _ => h 68 _ rfl
  | 52, _ => h 65 _ rfl
  | 53, _ => h 64 _ rfl
  | 54, _ => h 63 _ rfl
  | 55, _ => h 51 _ rfl
  | 56, _ => h 52 _ rfl
  | 57, _ => h 53 _ rfl
  | 58, _ => h 54 _ rfl
  | 59, _ => h 55 _ rfl
  | 60, _ => h 56 _ rfl
  | 61, _ => h 33 _ rfl
  | 62, _ => h 34 _ rfl
  | 63, _ => h 35 _ rfl
  | 64, _ => h 36 _ rfl
  | 65, _ => h 37 _ rfl
  | 66, _ => h 38 _ rfl
  | 67, _ => h 47 _ rfl
  | 68, _ => h 45 _ rfl
  | 69, _ => h 43 _ rfl
  | 70, _ => h 41 _ rfl
  | 71, _ => h 48 _ rfl
  | 72, _ => h 46 _ rfl
  | 73, _ => h 44 _ rfl
  | 74, _ => h 42 _ rfl
  | 75, _ => h 28 _ rfl
  | 76, _ => h 24 _ rfl
  | 77, _ => h 20 _ rfl
  | 78, _ => h 16 _ rfl
  | 79, _ => h 29 _ rfl
  | 80, _ => h 25 _ rfl
  | 81, _ => h 21 _ rfl
  | 82, _ => h 17 _ rfl
  | 83, _ => h 30 _ rfl
  | 84, _ => h 26 _ rfl
  | 85, _ => h 22 _ rfl
  | 86, _ => h 18 _ rfl
  | 87, _ => h 31 _ rfl
  | 88, _ => h 27 _ rfl
  | 89, _ => h 23 _ rfl
  | 90, _ => h 19 _ rfl
  | c + 91, h => absurd h (by omega)
def adM_of (h0 : Nat) (a : List Nat → Nat) (c : Nat) : Nat := ([h0, (a [0]), (a [1]), (a [2]), (a [3]), (a [4]), (a [5]), (a [6]), (a [7]), (a [8]), (a [9]), (a [10]), (a [11]), (a [12]), (a [13]), (a [14]), (a [15]), (a [16]), (a [17]), (a [18]), (a [19]), (a [20]), (a [21]), (a [22]), (a [23]), (a [24])] : List Nat).getD c 0
def posM (c : Nat) : Nat := ([0, 1, 2, 3, 4, 5, 6, 7, 8, 9, 10, 11, 12, 13, 14, 15, 16, 17, 18, 19, 20, 21, 22, 23, 24, 25] : List Nat).getD c 0
def v0M : VV := fun c j => if c = 0 then (if j = 2 then 1 else 0) else 0
theorem posM_inj : ∀ i, i < 26 → ∀ j, j < 26 → posM i = posM j → i = j := by decide +kernel
set_option maxRecDepth 100000 in
set_option maxHeartbeats 4000000 in
theorem atM_of (cy : Nat → ClassId) (h0 : Nat) (a : List Nat → Nat) : ∀ c, c < 26 → ∃ e, (cel_X11 cy h0 a)[posM c]? = some (adM_of h0 a c, e)
  | 0, _ => ⟨_, rfl⟩
  | 1, _ => ⟨_, rfl⟩
  | 2, _ => ⟨_, rfl⟩
  | 3, _ => ⟨_, rfl⟩
  | 4, _ => ⟨_, rfl⟩
  | 5, _ => ⟨_, rfl⟩
  | 6, _ => ⟨_, rfl⟩
  | 7, _ => ⟨_, rfl⟩
  | 8, _ => ⟨_, rfl⟩
  | 9, _ => ⟨_, rfl⟩
  | 10, _ => ⟨_, rfl⟩
  | 11, _ => ⟨_, rfl⟩
  | 12, _ => ⟨_, rfl⟩
  | 13, _ => ⟨_, rfl⟩
  | 14, _ => ⟨_, rfl⟩
  | 15, _ => ⟨_, rfl⟩
  | 16, _ => ⟨_, rfl⟩
  | 17, _ => ⟨_, rfl⟩
  | 18, _ => ⟨_, rfl⟩
  | 19, _ => ⟨_, rfl⟩
  | 20, _ => ⟨_, rfl⟩
  | 21, _ => ⟨_, rfl⟩
  | 22, _ => ⟨_, rfl⟩
  | 23, _ => ⟨_, rfl⟩
  | 24, _ => ⟨_, rfl⟩
  | 25, _ => ⟨_, rfl⟩
  | c + 26, h => absurd h (by omega)
set_option maxRecDepth 100000 in
set_option maxHeartbeats 4000000 in
theorem wdM_of {D : va_G} {cy : Nat → ClassId} {h0 : Nat} {a : List Nat → Nat} {H : Heap} (h : va_P D vwCl (cel_X11 cy h0 a) H) : ∀ c, c < 26 → va_at D vwCl (adM_of h0 a c, wd_e LM cy (adM_of h0 a) v0M c) H
  | 0, _ => h 0 _ rfl
  | 1, _ => h 1 _ rfl
  | 2, _ => h 2 _ rfl
  | 3, _ => h 3 _ rfl
  | 4, _ => h 4 _ rfl
  | 5, _ => h 5 _ rfl
  | 6, _ => h 6 _ rfl
  | 7, _ => h 7 _ rfl
  | 8, _ => h 8 _ rfl
  | 9, _ => h 9 _ rfl
  | 10, _ => h 10 _ rfl
  | 11, _ => h 11 _ rfl
  | 12, _ => h 12 _ rfl
  | 13, _ => h 13 _ rfl
  | 14, _ => h 14 _ rfl
  | 15, _ => h 15 _ rfl
  | 16, _ => h 16 _ rfl
  | 17, _ => h 17 _ rfl
  | 18, _ => h 18 _ rfl
  | 19, _ => h 19 _ rfl
  | 20, _ => h 20 _ rfl
  | 21, _ => h 21 _ rfl
  | 22, _ => h 22 _ rfl
  | 23, _ => h 23 _ rfl
  | 24, _ => h 24 _ rfl
  | 25, _ => h 25 _ rfl
  | c + 26, h => absurd h (by omega)
theorem PC_of {D : va_G} {cy : Nat → ClassId} {h0 : Nat} {a : List Nat → Nat} {H : Heap} (h : va_P D vwCl (cel_X10 cy h0 a) H) : va_P D vwCl (wd LC cy (adC_of h0 a) v0C) H := by
  intro k q hk
  have hkl : k < 91 := by
    have := (List.getElem?_eq_some_iff.mp hk).1
    simpa [wd] using this
  rw [wd_get (Λ := LC) hkl] at hk
  cases hk
  exact wdC_of h k hkl
theorem IC_of {A : Nat → Prop} {cy : Nat → ClassId} {h0 : Nat} {a : List Nat → Nat} (h : va_D A (cel_X10 cy h0 a)) : wI LC (adC_of h0 a) ∧ ∀ c, c < 91 → A (adC_of h0 a c) := by
  refine ⟨fun i j hi hj hij => ?_, fun c hc => ?_⟩
  · obtain ⟨e1, h1⟩ := atC_of cy h0 a i hi
    obtain ⟨e2, h2⟩ := atC_of cy h0 a j hj
    exact posC_inj i hi j hj (h.1 _ _ _ _ h1 h2 hij)
  · obtain ⟨e1, h1⟩ := atC_of cy h0 a c hc
    exact h.2 _ _ h1
theorem PM_of {D : va_G} {cy : Nat → ClassId} {h0 : Nat} {a : List Nat → Nat} {H : Heap} (h : va_P D vwCl (cel_X11 cy h0 a) H) : va_P D vwCl (wd LM cy (adM_of h0 a) v0M) H := by
  intro k q hk
  have hkl : k < 26 := by
    have := (List.getElem?_eq_some_iff.mp hk).1
    simpa [wd] using this
  rw [wd_get (Λ := LM) hkl] at hk
  cases hk
  exact wdM_of h k hkl
theorem IM_of {A : Nat → Prop} {cy : Nat → ClassId} {h0 : Nat} {a : List Nat → Nat} (h : va_D A (cel_X11 cy h0 a)) : wI LM (adM_of h0 a) ∧ ∀ c, c < 26 → A (adM_of h0 a c) := by
  refine ⟨fun i j hi hj hij => ?_, fun c hc => ?_⟩
  · obtain ⟨e1, h1⟩ := atM_of cy h0 a i hi
    obtain ⟨e2, h2⟩ := atM_of cy h0 a j hj
    exact posM_inj i hi j hj (h.1 _ _ _ _ h1 h2 hij)
  · obtain ⟨e1, h1⟩ := atM_of cy h0 a c hc
    exact h.2 _ _ h1
