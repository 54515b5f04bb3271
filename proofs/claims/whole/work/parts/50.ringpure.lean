/-! rings, purely: P ports, o the open lengths, G the gains, H the lengths of legs -/
def rg (G : Nat → Nat → Int) (f : Nat → Nat) : Nat → Int
  | 0 => 0
  | n + 1 => rg G f n + G (f n) (f (n + 1))
def RG (G : Nat → Nat → Int) (f : Nat → Nat) (m : Nat) : Int := rg G f (m - 1) + G (f (m - 1)) (f 0)
def agr (f g : Nat → Nat) (m : Nat) : Prop := ∀ i, i < m → f i = g i
theorem agr_s {f g : Nat → Nat} {m : Nat} (h : agr f g m) : agr g f m := fun i hi => (h i hi).symm
def pok (P : Nat) (o : Nat → Nat → Nat) (f : Nat → Nat) (m : Nat) : Prop := (∀ i, i < m → f i < P) ∧ (∀ i j, i < j → j < m → f i ≠ f j) ∧ (∀ i, 1 ≤ i → i < m → f 0 < f i) ∧ (∀ i, i + 1 < m → o (f i) (f (i + 1)) ≠ 0)
def cand (P : Nat) (o : Nat → Nat → Nat) (f : Nat → Nat) (m : Nat) : Prop := 2 ≤ m ∧ pok P o f m ∧ o (f (m - 1)) (f 0) ≠ 0
def lexlt (f g : Nat → Nat) (m : Nat) : Prop := ∃ i, i < m ∧ (∀ j, j < i → f j = g j) ∧ f i < g i
def bt (G H : Nat → Nat → Int) (f : Nat → Nat) (m : Nat) (g : Nat → Nat) (n : Nat) : Prop := RG G g n * RG H f m < RG G f m * RG H g n ∨ (RG G g n * RG H f m = RG G f m * RG H g n ∧ (m < n ∨ (m = n ∧ lexlt f g m)))
def isMax (P : Nat) (o : Nat → Nat → Nat) (G H : Nat → Nat → Int) (Q : (Nat → Nat) → Nat → Prop) (bm : Nat) (b : Nat → Nat) (gv lv : Int) : Prop := (bm = 0 ∧ ∀ f m, cand P o f m → ¬ Q f m) ∨ (bm ≠ 0 ∧ cand P o b bm ∧ Q b bm ∧ gv = RG G b bm ∧ lv = RG H b bm ∧ ∀ f m, cand P o f m → Q f m → ¬ bt G H f m b bm)
theorem rg_congr {G : Nat → Nat → Int} {f g : Nat → Nat} : ∀ n, agr f g (n + 1) → rg G f n = rg G g n
  | 0, _ => rfl
  | n + 1, h => by
    rw [rg, rg, rg_congr n (fun i hi => h i (by omega)), h n (by omega), h (n + 1) (by omega)]
theorem RG_congr {G : Nat → Nat → Int} {f g : Nat → Nat} {m : Nat} (hm : 1 ≤ m) (h : agr f g m) : RG G f m = RG G g m := by
  unfold RG
  rw [rg_congr (m - 1) (fun i hi => h i (by omega)), h (m - 1) (by omega), h 0 (by omega)]
theorem pok_congr {P : Nat} {o : Nat → Nat → Nat} {f g : Nat → Nat} {m : Nat} (h : agr f g m) (hf : pok P o f m) : pok P o g m := by
  obtain ⟨h1, h2, h3, h4⟩ := hf
  refine ⟨fun i hi => by rw [← h i hi]; exact h1 i hi, fun i j hi hj => by rw [← h i (by omega), ← h j hj]; exact h2 i j hi hj, fun i h0 hi => by rw [← h i hi, ← h 0 (by omega)]; exact h3 i h0 hi, fun i hi => by rw [← h i (by omega), ← h (i + 1) hi]; exact h4 i hi⟩
theorem cand_congr {P : Nat} {o : Nat → Nat → Nat} {f g : Nat → Nat} {m : Nat} (h : agr f g m) (hf : cand P o f m) : cand P o g m := by
  obtain ⟨h1, h2, h3⟩ := hf
  exact ⟨h1, pok_congr h h2, by rw [← h (m - 1) (by omega), ← h 0 (by omega)]; exact h3⟩
theorem lexlt_tr {f g h : Nat → Nat} {m : Nat} (h1 : lexlt f g m) (h2 : lexlt g h m) : lexlt f h m := by
  obtain ⟨i, hi, hi1, hi2⟩ := h1
  obtain ⟨j, hj, hj1, hj2⟩ := h2
  by_cases e : i < j
  · exact ⟨i, hi, fun k hk => (hi1 k hk).trans (hj1 k (by omega)), by rw [← hj1 i e]; exact hi2⟩
  · by_cases e2 : j < i
    · exact ⟨j, hj, fun k hk => (hi1 k (by omega)).trans (hj1 k hk), by rw [hi1 j e2]; exact hj2⟩
    · have : i = j := by omega
      subst this
      exact ⟨i, hi, fun k hk => (hi1 k hk).trans (hj1 k hk), by omega⟩
theorem lexlt_irr {f g : Nat → Nat} {m : Nat} (h : agr f g m) : ¬ lexlt f g m := fun ⟨i, hi, _, h2⟩ => by
  have := h i hi
  omega
theorem lexlt_tot {f g : Nat → Nat} : ∀ m, lexlt f g m ∨ agr f g m ∨ lexlt g f m
  | 0 => Or.inr (Or.inl (fun i hi => by omega))
  | m + 1 => by
    rcases lexlt_tot (f := f) (g := g) m with ⟨i, hi, h1, h2⟩ | h | ⟨i, hi, h1, h2⟩
    · exact Or.inl ⟨i, by omega, h1, h2⟩
    · by_cases e1 : f m < g m
      · exact Or.inl ⟨m, by omega, h, e1⟩
      · by_cases e2 : g m < f m
        · exact Or.inr (Or.inr ⟨m, by omega, agr_s h, e2⟩)
        · refine Or.inr (Or.inl (fun i hi => ?_))
          by_cases e : i = m
          · subst e; omega
          · exact h i (by omega)
    · exact Or.inr (Or.inr ⟨i, by omega, h1, h2⟩)
theorem q_tr {g1 g2 g3 l1 l2 l3 : Int} (p1 : 0 < l1) (p2 : 0 < l2) (p3 : 0 < l3) (h1 : g2 * l1 ≤ g1 * l2) (h2 : g3 * l2 ≤ g2 * l3) : g3 * l1 ≤ g1 * l3 := by
  have a1 := Int.mul_le_mul_of_nonneg_right h1 (Int.le_of_lt p3)
  have a2 := Int.mul_le_mul_of_nonneg_right h2 (Int.le_of_lt p1)
  have e1 : g2 * l1 * l3 = g2 * l3 * l1 := by grind
  have e2 : g3 * l2 * l1 = g3 * l1 * l2 := by grind
  have e3 : g1 * l2 * l3 = g1 * l3 * l2 := by grind
  rw [e1, e3] at a1
  rw [e2] at a2
  exact Int.le_of_mul_le_mul_right (Int.le_trans a2 a1) p2
theorem q_tr1 {g1 g2 g3 l1 l2 l3 : Int} (p1 : 0 < l1) (p2 : 0 < l2) (p3 : 0 < l3) (h1 : g2 * l1 < g1 * l2) (h2 : g3 * l2 ≤ g2 * l3) : g3 * l1 < g1 * l3 := by
  have a1 := Int.mul_lt_mul_of_pos_right h1 p3
  have a2 := Int.mul_le_mul_of_nonneg_right h2 (Int.le_of_lt p1)
  have e1 : g2 * l1 * l3 = g2 * l3 * l1 := by grind
  have e2 : g3 * l2 * l1 = g3 * l1 * l2 := by grind
  have e3 : g1 * l2 * l3 = g1 * l3 * l2 := by grind
  rw [e1, e3] at a1
  rw [e2] at a2
  exact Int.lt_of_mul_lt_mul_right (Int.lt_of_le_of_lt a2 a1) (Int.le_of_lt p2)
theorem q_tr2 {g1 g2 g3 l1 l2 l3 : Int} (p1 : 0 < l1) (p2 : 0 < l2) (p3 : 0 < l3) (h1 : g2 * l1 ≤ g1 * l2) (h2 : g3 * l2 < g2 * l3) : g3 * l1 < g1 * l3 := by
  have a1 := Int.mul_le_mul_of_nonneg_right h1 (Int.le_of_lt p3)
  have a2 := Int.mul_lt_mul_of_pos_right h2 p1
  have e1 : g2 * l1 * l3 = g2 * l3 * l1 := by grind
  have e2 : g3 * l2 * l1 = g3 * l1 * l2 := by grind
  have e3 : g1 * l2 * l3 = g1 * l3 * l2 := by grind
  rw [e1, e3] at a1
  rw [e2] at a2
  exact Int.lt_of_mul_lt_mul_right (Int.lt_of_lt_of_le a2 a1) (Int.le_of_lt p2)
theorem bt_tr {G H : Nat → Nat → Int} {f g h : Nat → Nat} {m n k : Nat} (p1 : 0 < RG H f m) (p2 : 0 < RG H g n) (p3 : 0 < RG H h k) (h1 : bt G H f m g n) (h2 : bt G H g n h k) : bt G H f m h k := by
  unfold bt at *
  rcases h1 with a | ⟨a, a'⟩
  · rcases h2 with b | ⟨b, b'⟩
    · exact Or.inl (q_tr1 p1 p2 p3 a (Int.le_of_lt b))
    · exact Or.inl (q_tr1 p1 p2 p3 a (Int.le_of_eq b))
  · rcases h2 with b | ⟨b, b'⟩
    · exact Or.inl (q_tr2 p1 p2 p3 (Int.le_of_eq a) b)
    · right
      refine ⟨Int.le_antisymm (q_tr p1 p2 p3 (Int.le_of_eq a) (Int.le_of_eq b)) ?_, ?_⟩
      · have a1 : RG G f m * RG H g n ≤ RG G g n * RG H f m := Int.le_of_eq a.symm
        have b1 : RG G g n * RG H h k ≤ RG G h k * RG H g n := Int.le_of_eq b.symm
        have := q_tr (g1 := RG G h k) (g2 := RG G g n) (g3 := RG G f m) p3 p2 p1 b1 a1
        exact this
      · rcases a' with c | ⟨c, c'⟩
        · rcases b' with d | ⟨d, d'⟩
          · left; omega
          · left; omega
        · rcases b' with d | ⟨d, d'⟩
          · left; omega
          · right
            subst c
            exact ⟨d, lexlt_tr c' d'⟩
theorem bt_irr {G H : Nat → Nat → Int} {f g : Nat → Nat} {m : Nat} (hm : 1 ≤ m) (h : agr f g m) : ¬ bt G H f m g m := by
  unfold bt
  rw [RG_congr hm h, RG_congr hm h]
  rintro (a | ⟨a, b | ⟨-, b⟩⟩)
  · omega
  · omega
  · exact lexlt_irr h b
theorem pig : ∀ (P : Nat) (l : List Nat), l.Nodup → (∀ x, x ∈ l → x < P) → l.length ≤ P
  | 0, l, _, h => by
    cases l with
    | nil => exact Nat.le_refl _
    | cons a l => exact absurd (h a (by simp)) (by omega)
  | P + 1, l, hn, h => by
    have h1 := pig P (l.erase P) (hn.erase P) (fun x hx => by
      have := hn.mem_erase_iff.mp hx
      have h9 := h x this.2
      have h8 := this.1
      omega)
    by_cases hm : P ∈ l
    · rw [List.length_erase_of_mem hm] at h1
      omega
    · rw [List.erase_of_not_mem hm] at h1
      omega
theorem pig_f {P m : Nat} {f : Nat → Nat} (h1 : ∀ i, i < m → f i < P) (h2 : ∀ i j, i < j → j < m → f i ≠ f j) : m ≤ P := by
  have := pig P ((List.range m).map f) (by
    rw [List.nodup_iff_pairwise_ne, List.pairwise_map]
    have hr : List.Pairwise (fun a b => a < b ∧ b < m) (List.range m) := by
      have h9 : List.Pairwise (fun a b => a < b) (List.range m) := List.pairwise_lt_range
      exact List.Pairwise.imp_of_mem (fun {a b} ha hb hab => ⟨hab, List.mem_range.mp hb⟩) h9
    exact hr.imp (fun {a b} hab => h2 a b hab.1 hab.2)) (by
    intro x hx
    obtain ⟨i, hi, rfl⟩ := List.mem_map.mp hx
    exact h1 i (List.mem_range.mp hi))
  rw [List.length_map, List.length_range] at this
  exact this
section
variable {P : Nat} {o : Nat → Nat → Nat} {G H : Nat → Nat → Int} {Q Q' : (Nat → Nat) → Nat → Prop} {bm c : Nat} {b w : Nat → Nat} {gv lv : Int}
theorem isMax_yes (hH : ∀ f m, cand P o f m → 0 < RG H f m) (h : isMax P o G H Q bm b gv lv) (hc : cand P o w c) (hb : bm = 0 ∨ bt G H w c b bm) (hQ : ∀ f m, cand P o f m → (Q' f m ↔ Q f m ∨ (m = c ∧ agr f w c))) : isMax P o G H Q' c w (RG G w c) (RG H w c) := by
  right
  have hc2 := hc.1
  refine ⟨by omega, hc, (hQ w c hc).mpr (Or.inr ⟨rfl, fun _ _ => rfl⟩), rfl, rfl, fun f m hf hq => ?_⟩
  rcases (hQ f m hf).mp hq with h1 | ⟨rfl, h1⟩
  · rcases h with ⟨h2, h3⟩ | ⟨h2, h3, h4, h5, h6, h7⟩
    · exact absurd h1 (h3 f m hf)
    · intro h8
      rcases hb with h9 | h9
      · exact h2 h9
      · exact h7 f m hf h1 (bt_tr (hH _ _ hf) (hH _ _ hc) (hH _ _ h3) h8 h9)
  · exact bt_irr (by omega) h1
theorem isMax_no (h : isMax P o G H Q bm b gv lv) (hbm : bm ≠ 0) (hc : cand P o w c) (hb : ¬ bt G H w c b bm) (hQ : ∀ f m, cand P o f m → (Q' f m ↔ Q f m ∨ (m = c ∧ agr f w c))) : isMax P o G H Q' bm b gv lv := by
  have hc2 := hc.1
  rcases h with ⟨h2, h3⟩ | ⟨h2, h3, h4, h5, h6, h7⟩
  · exact absurd h2 hbm
  · right
    refine ⟨h2, h3, (hQ _ _ h3).mpr (Or.inl h4), h5, h6, fun f m hf hq => ?_⟩
    rcases (hQ f m hf).mp hq with h1 | ⟨rfl, h1⟩
    · exact h7 f m hf h1
    · intro h8
      apply hb
      unfold bt at h8 ⊢
      rw [RG_congr (by omega) h1, RG_congr (by omega) h1] at h8
      rcases h8 with a | ⟨a, a' | ⟨a', i, a1, a2, a3⟩⟩
      · exact Or.inl a
      · exact Or.inr ⟨a, Or.inl a'⟩
      · exact Or.inr ⟨a, Or.inr ⟨a', i, a1, fun j hj => (h1 j (by omega)).symm.trans (a2 j hj), by rw [← h1 i a1]; exact a3⟩⟩
theorem isMax_eq (h : isMax P o G H Q bm b gv lv) (hQ : ∀ f m, cand P o f m → (Q' f m ↔ Q f m)) : isMax P o G H Q' bm b gv lv := by
  rcases h with ⟨h2, h3⟩ | ⟨h2, h3, h4, h5, h6, h7⟩
  · exact Or.inl ⟨h2, fun f m hf hq => h3 f m hf ((hQ f m hf).mp hq)⟩
  · exact Or.inr ⟨h2, h3, (hQ _ _ h3).mpr h4, h5, h6, fun f m hf hq => h7 f m hf ((hQ f m hf).mp hq)⟩
theorem isMax_uni {bm' : Nat} {b' : Nat → Nat} {gv' lv' : Int} (hQ : ∀ f m, cand P o f m → Q f m) (hQ' : ∀ f m, cand P o f m → Q' f m) (h : isMax P o G H Q bm b gv lv) (h' : isMax P o G H Q' bm' b' gv' lv') : (bm = 0 ∧ bm' = 0) ∨ (bm ≠ 0 ∧ bm' = bm ∧ agr b b' bm ∧ gv = gv' ∧ lv = lv' ∧ bm ≤ P) := by
  rcases h with ⟨h2, h3⟩ | ⟨h2, h3, h4, h5, h6, h7⟩
  · rcases h' with ⟨k2, k3⟩ | ⟨k2, k3, k4, k5, k6, k7⟩
    · exact Or.inl ⟨h2, k2⟩
    · exact absurd (hQ _ _ k3) (h3 _ _ k3)
  · rcases h' with ⟨k2, k3⟩ | ⟨k2, k3, k4, k5, k6, k7⟩
    · exact absurd (hQ' _ _ h3) (k3 _ _ h3)
    · right
      have a1 := h7 _ _ k3 (hQ _ _ k3)
      have a2 := k7 _ _ h3 (hQ' _ _ h3)
      unfold bt at a1 a2
      have e1 : RG G b bm * RG H b' bm' = RG G b' bm' * RG H b bm := by
        apply Int.le_antisymm
        · exact Int.not_lt.mp (fun hh => a2 (Or.inl hh))
        · exact Int.not_lt.mp (fun hh => a1 (Or.inl hh))
      have e2 : bm' = bm := by
        have b1 : ¬ bm' < bm := fun hh => a1 (Or.inr ⟨e1, Or.inl hh⟩)
        have b2 : ¬ bm < bm' := fun hh => a2 (Or.inr ⟨e1.symm, Or.inl hh⟩)
        omega
      subst e2
      have hag : agr b b' bm' := by
        rcases lexlt_tot (f := b) (g := b') bm' with c1 | c1 | c1
        · exact absurd (Or.inr ⟨e1.symm, Or.inr ⟨rfl, c1⟩⟩) a2
        · exact c1
        · exact absurd (Or.inr ⟨e1, Or.inr ⟨rfl, c1⟩⟩) a1
      have hm1 : 1 ≤ bm' := by have := h3.1; omega
      refine ⟨h2, rfl, hag, by rw [h5, k5, RG_congr hm1 hag], by rw [h6, k6, RG_congr hm1 hag], ?_⟩
      exact pig_f h3.2.1.1 h3.2.1.2.1
end
