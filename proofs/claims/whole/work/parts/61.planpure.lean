/-! a search by trips, purely: tp one trip by its number below W, cn the coins at the end; the best so far, with its number -/
section
variable {α : Type} (tp : α → Nat → Option α) (cn : α → Nat) (W : Nat)
def upB (B : Option (Nat × Nat)) (c a : Nat) : Option (Nat × Nat) := match B with
  | none => some (c, a)
  | some (c0, a0) => if c0 < c then some (c, a) else some (c0, a0)
def srL (D : α → Nat → Option (Nat × Nat) → Option (Nat × Nat)) (σ : α) (a : Nat) (B : Option (Nat × Nat)) : Nat → Option (Nat × Nat)
  | 0 => B
  | x + 1 => match tp σ x with
    | none => srL D σ a B x
    | some σ' => D σ' (a * W + x) (srL D σ a B x)
def srD : Nat → α → Nat → Option (Nat × Nat) → Option (Nat × Nat)
  | 0, σ, a, B => upB B (cn σ) a
  | d + 1, σ, a, B => srL tp W (srD d) σ a B W
def runc (σ0 : α) : Nat → Nat → Option α
  | 0, _ => some σ0
  | j + 1, a => (runc σ0 j (a / W)).bind (fun σ => tp σ (a % W))
/-- one after the other: n numbers from lo -/
def enu (σ0 : α) (k lo : Nat) (B : Option (Nat × Nat)) : Nat → Option (Nat × Nat)
  | 0 => B
  | n + 1 => match runc tp W σ0 k (lo + n) with
    | none => enu σ0 k lo B n
    | some σ => upB (enu σ0 k lo B n) (cn σ) (lo + n)
theorem enu_add (σ0 : α) (k lo : Nat) (B : Option (Nat × Nat)) (c1 : Nat) : ∀ c2, enu tp cn W σ0 k lo B (c1 + c2) = enu tp cn W σ0 k (lo + c1) (enu tp cn W σ0 k lo B c1) c2
  | 0 => rfl
  | c2 + 1 => by
    rw [show c1 + (c2 + 1) = (c1 + c2) + 1 from rfl, enu, enu, enu_add σ0 k lo B c1 c2, Nat.add_assoc]
theorem runc_s (σ0 : α) (j a x : Nat) (hx : x < W) : runc tp W σ0 (j + 1) (a * W + x) = (runc tp W σ0 j a).bind (fun σ => tp σ x) := by
  rw [runc, Nat.add_comm, Nat.add_mul_div_right _ _ (by omega), Nat.div_eq_of_lt hx, Nat.zero_add, Nat.add_mul_mod_self_right, Nat.mod_eq_of_lt hx]
theorem enu_D (σ0 : α) (k : Nat) : ∀ (d j a : Nat) (B : Option (Nat × Nat)), d + j = k → enu tp cn W σ0 k (a * W ^ d) B (W ^ d) = match runc tp W σ0 j a with
    | none => B
    | some σ => srD tp cn W d σ a B
  | 0, j, a, B, h => by
    have : j = k := by omega
    subst this
    rw [Nat.pow_zero, Nat.mul_one, enu, Nat.add_zero]
    cases runc tp W σ0 j a with
    | none => rfl
    | some σ => rfl
  | d + 1, j, a, B, h => by
    have hx : ∀ x, x ≤ W → enu tp cn W σ0 k (a * W ^ (d + 1)) B (x * W ^ d) = match runc tp W σ0 j a with
        | none => B
        | some σ => srL tp W (srD tp cn W d) σ a B x := by
      intro x
      induction x with
      | zero =>
        intro _
        rw [Nat.zero_mul, enu]
        cases runc tp W σ0 j a with
        | none => rfl
        | some σ => rfl
      | succ x ih =>
        intro hx
        rw [Nat.succ_mul, enu_add, ih (by omega), show a * W ^ (d + 1) + x * W ^ d = (a * W + x) * W ^ d by rw [Nat.pow_succ, Nat.add_mul, Nat.mul_comm (W ^ d) W, Nat.mul_assoc], enu_D σ0 k d (j + 1) (a * W + x) _ (by omega), runc_s tp W σ0 j a x (by omega)]
        cases runc tp W σ0 j a with
        | none => rfl
        | some σ => rfl
    have := hx W (Nat.le_refl _)
    rw [show W ^ (d + 1) = W * W ^ d by rw [Nat.pow_succ, Nat.mul_comm]] at this ⊢
    rw [this]
    cases runc tp W σ0 j a with
    | none => rfl
    | some σ => rfl
/-! what is found is at least what was there, and at least each outcome; where all outcomes are reached already nothing changes -/
def geB (B : Option (Nat × Nat)) (c : Nat) : Prop := ∃ c' a, B = some (c', a) ∧ c ≤ c'
theorem geB_up {B : Option (Nat × Nat)} {c c1 a : Nat} (h : geB B c) : geB (upB B c1 a) c := by
  obtain ⟨c', a', rfl, h⟩ := h
  unfold upB
  dsimp only
  split
  · exact ⟨c1, a, rfl, by omega⟩
  · exact ⟨c', a', rfl, h⟩
theorem geB_upc (B : Option (Nat × Nat)) (c a : Nat) : geB (upB B c a) c := by
  unfold upB
  cases B with
  | none => exact ⟨c, a, rfl, Nat.le_refl _⟩
  | some x =>
    obtain ⟨c0, a0⟩ := x
    dsimp only
    split
    · exact ⟨c, a, rfl, Nat.le_refl _⟩
    · exact ⟨c0, a0, rfl, by omega⟩
theorem upB_id {B : Option (Nat × Nat)} {c a : Nat} (h : geB B c) : upB B c a = B := by
  obtain ⟨c', a', rfl, h⟩ := h
  unfold upB
  dsimp only
  rw [if_neg (by omega)]
def outc : Nat → α → Nat → Prop
  | 0, σ, c => c = cn σ
  | d + 1, σ, c => ∃ x σ', x < W ∧ tp σ x = some σ' ∧ outc d σ' c
theorem srL_ge {D : α → Nat → Option (Nat × Nat) → Option (Nat × Nat)} {c : Nat} (hD : ∀ σ a B, geB B c → geB (D σ a B) c) (σ : α) (a : Nat) (B : Option (Nat × Nat)) (h : geB B c) : ∀ x, geB (srL tp W D σ a B x) c
  | 0 => h
  | x + 1 => by
    rw [srL]
    cases tp σ x with
    | none => exact srL_ge hD σ a B h x
    | some σ' => exact hD _ _ _ (srL_ge hD σ a B h x)
theorem srD_ge {c : Nat} : ∀ (d : Nat) (σ : α) (a : Nat) (B : Option (Nat × Nat)), geB B c → geB (srD tp cn W d σ a B) c
  | 0, σ, a, B, h => geB_up h
  | d + 1, σ, a, B, h => srL_ge tp W (srD_ge d) σ a B h W
theorem srL_mono {D : α → Nat → Option (Nat × Nat) → Option (Nat × Nat)} {c : Nat} (hD : ∀ σ a B, geB B c → geB (D σ a B) c) (σ : α) (a : Nat) (B : Option (Nat × Nat)) (x : Nat) (h : geB (srL tp W D σ a B x) c) : ∀ n, geB (srL tp W D σ a B (x + n)) c
  | 0 => h
  | n + 1 => by
    rw [show x + (n + 1) = (x + n) + 1 from rfl, srL]
    cases tp σ (x + n) with
    | none => exact srL_mono hD σ a B x h n
    | some σ' => exact hD _ _ _ (srL_mono hD σ a B x h n)
theorem srD_out {c : Nat} : ∀ (d : Nat) (σ : α) (a : Nat) (B : Option (Nat × Nat)), outc tp cn W d σ c → geB (srD tp cn W d σ a B) c
  | 0, σ, a, B, h => by
    rw [outc] at h
    rw [srD, h]
    exact geB_upc _ _ _
  | d + 1, σ, a, B, h => by
    rw [outc] at h
    obtain ⟨x, σ', hx, ht, ho⟩ := h
    rw [srD]
    have h1 : geB (srL tp W (srD tp cn W d) σ a B (x + 1)) c := by
      rw [srL, ht]
      exact srD_out d σ' _ _ ho
    have := srL_mono tp W (D := srD tp cn W d) (fun σ a B h => srD_ge tp cn W d σ a B h) σ a B (x + 1) h1 (W - (x + 1))
    rw [show x + 1 + (W - (x + 1)) = W by omega] at this
    exact this
theorem srD_id : ∀ (d : Nat) (σ : α) (a : Nat) (B : Option (Nat × Nat)), (∀ c, outc tp cn W d σ c → geB B c) → srD tp cn W d σ a B = B
  | 0, σ, a, B, h => by
    rw [srD]
    exact upB_id (h _ rfl)
  | d + 1, σ, a, B, h => by
    rw [srD]
    have : ∀ x, x ≤ W → srL tp W (srD tp cn W d) σ a B x = B := by
      intro x
      induction x with
      | zero => intro _; rfl
      | succ x ih =>
        intro hx
        rw [srL, ih (by omega)]
        cases ht : tp σ x with
        | none => rfl
        | some σ' => exact srD_id d σ' _ B (fun c hc => h c ⟨x, σ', by omega, ht, hc⟩)
    exact this W (Nat.le_refl _)
/-- a trip alike an earlier one need not be searched -/
theorem srL_skip (d : Nat) (σ : α) (a : Nat) (B : Option (Nat × Nat)) (x x0 : Nat) (h0 : x0 < x) (he : tp σ x = tp σ x0) : srL tp W (srD tp cn W d) σ a B (x + 1) = srL tp W (srD tp cn W d) σ a B x := by
  rw [srL]
  cases ht : tp σ x with
  | none => rfl
  | some σ' =>
    refine srD_id tp cn W d σ' _ _ (fun c hc => ?_)
    have h1 : geB (srL tp W (srD tp cn W d) σ a B (x0 + 1)) c := by
      rw [srL, ← he, ht]
      exact srD_out tp cn W d σ' _ _ hc
    have := srL_mono tp W (D := srD tp cn W d) (fun σ a B h => srD_ge tp cn W d σ a B h) σ a B (x0 + 1) h1 (x - (x0 + 1))
    rw [show x0 + 1 + (x - (x0 + 1)) = x by omega] at this
    exact this
end
