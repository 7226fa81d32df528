/-! sums, the state's bounds -/
def sumN (f : Int → Int) : Nat → Int
  | 0 => 0
  | n + 1 => sumN f n + f n
def sumI (f : Int → Int) (n : Int) : Int := sumN f n.toNat
theorem sumI_0 {f : Int → Int} : sumI f 0 = 0 := rfl
theorem sumI_step {f : Int → Int} {n : Int} (h : 0 ≤ n) : sumI f (n + 1) = sumI f n + f n := by
  obtain ⟨k, rfl⟩ := Int.eq_ofNat_of_zero_le h
  rfl
theorem sumI_cong {f g : Int → Int} {n : Int} (h : ∀ i, 0 ≤ i → i < n → f i = g i) : sumI f n = sumI g n := by
  unfold sumI
  have key : ∀ k : Nat, (k : Int) ≤ n → sumN f k = sumN g k := by
    intro k
    induction k with
    | zero => intro _; rfl
    | succ k ih =>
      intro hk
      show sumN f k + f k = sumN g k + g k
      rw [ih (by omega), h k (by omega) (by omega)]
  by_cases hn : 0 ≤ n
  · exact key _ (by omega)
  · rw [show n.toNat = 0 by omega]; rfl
def Dim (σ : St) : Prop := 1 ≤ σ 18 0 ∧ σ 18 0 ≤ 12 ∧ 1 ≤ σ 18 1 ∧ σ 18 1 ≤ 10
theorem mul_rng {a b : Int} (h1 : 1 ≤ a) (h2 : a ≤ 12) (h3 : 1 ≤ b) (h4 : b ≤ 10) : 1 ≤ a * b ∧ a * b ≤ 120 := by
  have h5 : 1 * 1 ≤ a * b := Int.mul_le_mul h1 h3 (by omega) (by omega)
  have h6 : a * b ≤ 12 * 10 := Int.mul_le_mul h2 h4 (by omega) (by omega)
  omega
theorem Dim.mul {σ : St} (h : Dim σ) : 1 ≤ σ 18 0 * σ 18 1 ∧ σ 18 0 * σ 18 1 ≤ 120 := mul_rng h.1 h.2.1 h.2.2.1 h.2.2.2
/-- a cell's number, by its row and its column -/
theorem cell_in {C R r x : Int} (hr0 : 0 ≤ r) (hr : r < R) (hx0 : 0 ≤ x) (hx : x < C) : 0 ≤ r * C ∧ r * C + C ≤ C * R := by
  have h1 : 0 ≤ r * C := Int.mul_nonneg hr0 (by omega)
  have h2 : (r + 1) * C ≤ R * C := Int.mul_le_mul_of_nonneg_right (by omega) (by omega)
  rw [Int.add_mul, Int.one_mul, Int.mul_comm R C] at h2
  exact ⟨h1, h2⟩
/-- bounds of all numbers that are compared: kept within an hour's end and a trip too -/
def Bd (σ : St) : Prop := Dim σ ∧ (∀ c, 0 ≤ σ 1 c ∧ σ 1 c ≤ 400) ∧ (∀ c, 0 ≤ σ 2 c ∧ σ 2 c ≤ 300) ∧ (∀ c, 0 ≤ σ 4 c ∧ σ 4 c ≤ 5 + 120 * σ 18 8) ∧ (∀ c, 0 ≤ σ 5 c ∧ σ 5 c ≤ 3) ∧
  (0 ≤ σ 0 0 ∧ σ 0 0 ≤ 50) ∧ (∀ j, 1 ≤ j → j ≤ 3 → 0 ≤ σ 0 j ∧ σ 0 j ≤ 400) ∧ (-1 ≤ σ 0 4 ∧ σ 0 4 ≤ 1) ∧ (∀ h, 0 ≤ σ 7 h ∧ σ 7 h ≤ 60) ∧ (∀ t, 0 ≤ σ 8 t ∧ σ 8 t ≤ 200) ∧
  (∀ s, 0 ≤ σ 10 s ∧ σ 10 s ≤ 100000) ∧ (∀ s, 0 ≤ σ 11 s ∧ σ 11 s ≤ 100000) ∧ (∀ s, 0 ≤ s → s ≤ 2 → 1 ≤ σ 12 s ∧ σ 12 s ≤ 20) ∧
  (0 ≤ σ 18 6 ∧ σ 18 6 ≤ 8) ∧ (∀ p, 0 ≤ p → p < σ 18 6 → 0 ≤ σ 13 p ∧ σ 13 p < σ 18 0 * σ 18 1) ∧ (∀ p, 0 ≤ σ 14 p ∧ σ 14 p ≤ 10000) ∧ (0 ≤ σ 18 7 ∧ σ 18 7 ≤ 5000) ∧ (0 ≤ σ 18 8 ∧ σ 18 8 ≤ 5001) ∧
  (∀ i, -4 ≤ σ 16 i ∧ σ 16 i ≤ 400) ∧ (∀ s, 0 ≤ σ 17 s ∧ σ 17 s ≤ 1)
section BD
variable {σ : St}
theorem Bd.dim (h : Bd σ) : Dim σ := h.1
theorem Bd.depth (h : Bd σ) (c : Int) : 0 ≤ σ 1 c ∧ σ 1 c ≤ 400 := h.2.1 c
theorem Bd.design (h : Bd σ) (c : Int) : 0 ≤ σ 2 c ∧ σ 2 c ≤ 300 := h.2.2.1 c
theorem Bd.cloud (h : Bd σ) (c : Int) : 0 ≤ σ 4 c ∧ σ 4 c ≤ 5 + 120 * σ 18 8 := h.2.2.2.1 c
theorem Bd.loose (h : Bd σ) (c : Int) : 0 ≤ σ 5 c ∧ σ 5 c ≤ 3 := h.2.2.2.2.1 c
theorem Bd.over (h : Bd σ) : 0 ≤ σ 0 0 ∧ σ 0 0 ≤ 50 := h.2.2.2.2.2.1
theorem Bd.rule (h : Bd σ) (j : Int) (h1 : 1 ≤ j) (h2 : j ≤ 3) : 0 ≤ σ 0 j ∧ σ 0 j ≤ 400 := h.2.2.2.2.2.2.1 j h1 h2
theorem Bd.current (h : Bd σ) : -1 ≤ σ 0 4 ∧ σ 0 4 ≤ 1 := h.2.2.2.2.2.2.2.1
theorem Bd.tide (h : Bd σ) (j : Int) : 0 ≤ σ 7 j ∧ σ 7 j ≤ 60 := h.2.2.2.2.2.2.2.2.1 j
theorem Bd.table (h : Bd σ) (j : Int) : 0 ≤ σ 8 j ∧ σ 8 j ≤ 200 := h.2.2.2.2.2.2.2.2.2.1 j
theorem Bd.held (h : Bd σ) (j : Int) : 0 ≤ σ 10 j ∧ σ 10 j ≤ 100000 := h.2.2.2.2.2.2.2.2.2.2.1 j
theorem Bd.most (h : Bd σ) (j : Int) : 0 ≤ σ 11 j ∧ σ 11 j ≤ 100000 := h.2.2.2.2.2.2.2.2.2.2.2.1 j
theorem Bd.away (h : Bd σ) (j : Int) (h1 : 0 ≤ j) (h2 : j ≤ 2) : 1 ≤ σ 12 j ∧ σ 12 j ≤ 20 := h.2.2.2.2.2.2.2.2.2.2.2.2.1 j h1 h2
theorem Bd.posts (h : Bd σ) : 0 ≤ σ 18 6 ∧ σ 18 6 ≤ 8 := h.2.2.2.2.2.2.2.2.2.2.2.2.2.1
theorem Bd.place (h : Bd σ) (p : Int) (h1 : 0 ≤ p) (h2 : p < σ 18 6) : 0 ≤ σ 13 p ∧ σ 13 p < σ 18 0 * σ 18 1 := h.2.2.2.2.2.2.2.2.2.2.2.2.2.2.1 p h1 h2
theorem Bd.limit (h : Bd σ) (p : Int) : 0 ≤ σ 14 p ∧ σ 14 p ≤ 10000 := h.2.2.2.2.2.2.2.2.2.2.2.2.2.2.2.1 p
theorem Bd.hour (h : Bd σ) : 0 ≤ σ 18 7 ∧ σ 18 7 ≤ 5000 := h.2.2.2.2.2.2.2.2.2.2.2.2.2.2.2.2.1
theorem Bd.trips (h : Bd σ) : 0 ≤ σ 18 8 ∧ σ 18 8 ≤ 5001 := h.2.2.2.2.2.2.2.2.2.2.2.2.2.2.2.2.2.1
theorem Bd.sheet (h : Bd σ) (i : Int) : -4 ≤ σ 16 i ∧ σ 16 i ≤ 400 := h.2.2.2.2.2.2.2.2.2.2.2.2.2.2.2.2.2.2.1 i
theorem Bd.taken (h : Bd σ) (i : Int) : 0 ≤ σ 17 i ∧ σ 17 i ≤ 1 := h.2.2.2.2.2.2.2.2.2.2.2.2.2.2.2.2.2.2.2 i
end BD
