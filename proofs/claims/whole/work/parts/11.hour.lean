/-! an hour's drift; silt -/
/-- the numbers of the pass stay -/
def KS (σ τ : St) : Prop := ∀ i, 10 ≤ i → τ 18 i = σ 18 i
theorem KS.st {σ τ : St} {k : Nat} {j v : Int} (h : KS σ τ) (hk : k ≠ 18 ∨ j < 10) : KS σ (st τ k j v) := by
  intro i hi
  show (if 18 = k ∧ i = j then v else τ 18 i) = σ 18 i
  rw [if_neg (by omega)]
  exact h i hi
theorem KS.fl {σ τ : St} {k : Nat} {n v : Int} (h : KS σ τ) (hk : k ≠ 18) : KS σ (fl τ k v n) := by
  intro i hi
  show (if 18 = k ∧ 0 ≤ i ∧ i < n then v else τ 18 i) = σ 18 i
  rw [if_neg (by omega)]
  exact h i hi
def mvS (σ : St) (c : Int) : Int := if σ 0 4 = 0 then 0 else σ 4 c / 2
def seS (σ : St) (c : Int) : Int := σ 4 c / 4
abbrev inS (σ : St) (c : Int) : Prop := 0 ≤ c % σ 18 0 + σ 0 4 ∧ c % σ 18 0 + σ 0 4 ≤ σ 18 0 - 1
def ctS (σ : St) (j c : Int) : Int := (if j = c then σ 4 c - seS σ c - mvS σ c else 0) + (if inS σ c ∧ j = c + σ 0 4 then mvS σ c else 0)
def nxS (σ : St) (m j : Int) : Int := sumI (ctS σ j) m
def goS (σ : St) (c : Int) : Int := if inS σ c then 0 else mvS σ c
def dr (σ : St) (m : Int) : St := fun k i => if k = 1 ∧ 0 ≤ i ∧ i < m then max 0 (σ 1 i - (σ 5 i + seS σ i) / 4) else if k = 5 ∧ 0 ≤ i ∧ i < m then (σ 5 i + seS σ i) % 4 else if k = 18 ∧ i = 4 then σ 18 4 + sumI (goS σ) m else if k = 18 ∧ i = 5 then σ 18 5 + sumI (seS σ) m else σ k i
def DrI (σ : St) (m : Int) (τ : St) : Prop := Eqp τ (dr σ m) ∧ ∀ j, 0 ≤ j → j < σ 18 0 * σ 18 1 → τ 6 j = nxS σ m j
theorem dr_next {σ τ τ' : St} {m : Int} (h : DrI σ m τ) (hm : 0 ≤ m)
    (h1 : ∀ (k : Nat) (i : Int), pub k i → τ' k i = if k = 1 ∧ i = m then max 0 (σ 1 m - (σ 5 m + seS σ m) / 4) else if k = 5 ∧ i = m then (σ 5 m + seS σ m) % 4 else if k = 18 ∧ i = 4 then τ 18 4 + goS σ m else if k = 18 ∧ i = 5 then τ 18 5 + seS σ m else τ k i)
    (h2 : ∀ j, 0 ≤ j → j < σ 18 0 * σ 18 1 → τ' 6 j = τ 6 j + ctS σ j m) : DrI σ (m + 1) τ' := by
  refine ⟨fun k i hp => ?_, fun j h0 hj => ?_⟩
  · rw [h1 k i hp]
    have e4 : τ 18 4 = σ 18 4 + sumI (goS σ) m := h.1 18 4 (pub_s (by decide))
    have e5 : τ 18 5 = σ 18 5 + sumI (seS σ) m := h.1 18 5 (pub_s (by decide))
    have s4 := sumI_step (f := goS σ) hm
    have s5 := sumI_step (f := seS σ) hm
    have hk := h.1 k i hp
    unfold dr at hk ⊢
    by_cases a1 : k = 1 ∧ i = m
    · rw [if_pos a1, if_pos (by omega), a1.2]
    · rw [if_neg a1]
      by_cases a2 : k = 5 ∧ i = m
      · rw [if_pos a2, if_neg (by omega), if_pos (by omega), a2.2]
      · rw [if_neg a2]
        by_cases a3 : k = 18 ∧ i = 4
        · rw [if_pos a3, if_neg (by omega), if_neg (by omega), if_pos a3]; omega
        · rw [if_neg a3]
          by_cases a4 : k = 18 ∧ i = 5
          · rw [if_pos a4, if_neg (by omega), if_neg (by omega), if_neg a3, if_pos a4]; omega
          · rw [if_neg a4, hk, if_neg a3, if_neg a4, if_neg a3, if_neg a4]
            by_cases b1 : k = 1 ∧ 0 ≤ i ∧ i < m
            · rw [if_pos b1, if_pos (by omega)]
            · rw [if_neg b1, if_neg (show ¬ (k = 1 ∧ 0 ≤ i ∧ i < m + 1) by omega)]
              by_cases b2 : k = 5 ∧ 0 ≤ i ∧ i < m
              · rw [if_pos b2, if_pos (by omega)]
              · rw [if_neg b2, if_neg (by omega)]
  · rw [h2 j h0 hj, h.2 j h0 hj]
    exact (sumI_step hm).symm
theorem mod_cell {C r x : Int} (hx0 : 0 ≤ x) (hx : x < C) : (r * C + x) % C = x := by
  rw [Int.add_comm, Int.add_mul_emod_self_right, Int.emod_eq_of_lt hx0 hx]
theorem div_cell {C r x : Int} (hx0 : 0 ≤ x) (hx : x < C) : (r * C + x) / C = r := by
  rw [Int.add_comm, Int.add_mul_ediv_right _ _ (by omega), Int.ediv_eq_zero_of_lt hx0 hx]; omega
theorem dr_at {σ τ : St} {m : Int} (h : DrI σ m τ) : (∀ j, τ 4 j = σ 4 j) ∧ (∀ j, m ≤ j → τ 5 j = σ 5 j ∧ τ 1 j = σ 1 j) ∧ τ 18 0 = σ 18 0 ∧ τ 18 1 = σ 18 1 := by
  refine ⟨fun j => h.1 4 j (pub_k (by decide) (by decide) (by decide) (by decide)), fun j hj => ⟨?_, ?_⟩, h.1 18 0 (pub_s (by decide)), h.1 18 1 (pub_s (by decide))⟩
  · rw [h.1 5 j (pub_k (by decide) (by decide) (by decide) (by decide))]
    unfold dr
    rw [if_neg (by omega), if_neg (by omega), if_neg (by omega), if_neg (by omega)]
  · rw [h.1 1 j (pub_k (by decide) (by decide) (by decide) (by decide))]
    unfold dr
    rw [if_neg (by omega), if_neg (by omega), if_neg (by omega), if_neg (by omega)]
theorem dr_0 {σ τ : St} (h : Eqp τ σ) (h6 : ∀ j, 0 ≤ j → j < σ 18 0 * σ 18 1 → τ 6 j = 0) : DrI σ 0 τ := by
  refine ⟨fun k i hp => ?_, fun j h0 hj => h6 j h0 hj⟩
  rw [h k i hp]
  unfold dr
  rw [if_neg (by omega), if_neg (by omega), sumI_0, sumI_0]
  split
  · rename_i h; rw [h.1, h.2]; omega
  · split
    · rename_i h; rw [h.1, h.2]; omega
    · rfl
/-- what drifts goes on, within the row, or is gone -/
def dnS (σ : St) (row x m : Int) : St := if 0 ≤ x ∧ x ≤ σ 18 0 - 1 then st σ 6 (row * σ 18 0 + x) (σ 6 (row * σ 18 0 + x) + m) else st σ 18 4 (σ 18 4 + m)
def stlS (σ : St) (c m : Int) : St := st (st (st σ 1 c (max 0 (σ 1 c - (σ 5 c + m) / 4))) 5 c ((σ 5 c + m) % 4)) 18 5 (σ 18 5 + m)
theorem dr_stepX {σ τ : St} {row x : Int} (hx0 : 0 ≤ x) (hx : x < σ 18 0) (hr0 : 0 ≤ row) (h : DrI σ (row * σ 18 0 + x) τ) {se mv : Int} (hse : se = seS σ (row * σ 18 0 + x)) (hmv : mv = mvS σ (row * σ 18 0 + x)) :
    DrI σ (row * σ 18 0 + x + 1) (dnS (stlS (st τ 6 (row * σ 18 0 + x) (τ 6 (row * σ 18 0 + x) + (τ 4 (row * σ 18 0 + x) - se - mv))) (row * σ 18 0 + x) se) row (x + σ 0 4) mv) := by
  have hc0 : 0 ≤ row * σ 18 0 := Int.mul_nonneg hr0 (by omega)
  have hmod := mod_cell (r := row) hx0 hx
  obtain ⟨a4, a51, d0, d1⟩ := dr_at h
  have a5 := (a51 _ (Int.le_refl _)).1
  have a1 := (a51 _ (Int.le_refl _)).2
  subst hse hmv
  generalize hc : row * σ 18 0 + x = c at *
  have hin : inS σ c ↔ 0 ≤ x + σ 0 4 ∧ x + σ 0 4 ≤ σ 18 0 - 1 := by unfold inS; rw [hmod]
  refine dr_next h (by omega) (fun k i hp => ?_) (fun j h0 hj => ?_)
  · obtain ⟨p3, p6, p9, ps⟩ := hp
    have hgo : goS σ c = if 0 ≤ x + σ 0 4 ∧ x + σ 0 4 ≤ σ 18 0 - 1 then 0 else mvS σ c := by
      unfold goS
      by_cases q : inS σ c
      · rw [if_pos q, if_pos (hin.mp q)]
      · rw [if_neg q, if_neg (fun z => q (hin.mpr z))]
    have e1 : stlS (st τ 6 c (τ 6 c + (τ 4 c - seS σ c - mvS σ c))) c (seS σ c) k i = if k = 18 ∧ i = 5 then τ 18 5 + seS σ c else if k = 5 ∧ i = c then (σ 5 c + seS σ c) % 4 else if k = 1 ∧ i = c then max 0 (σ 1 c - (σ 5 c + seS σ c) / 4) else τ k i := by
      show (if k = 18 ∧ i = 5 then τ 18 5 + seS σ c else if k = 5 ∧ i = c then (τ 5 c + seS σ c) % 4 else if k = 1 ∧ i = c then max 0 (τ 1 c - (τ 5 c + seS σ c) / 4) else if k = 6 ∧ i = c then τ 6 c + (τ 4 c - seS σ c - mvS σ c) else τ k i) = _
      rw [a5, a1, if_neg (show ¬ (k = 6 ∧ i = c) from fun z => p6 z.1)]
    have e0 : stlS (st τ 6 c (τ 6 c + (τ 4 c - seS σ c - mvS σ c))) c (seS σ c) 18 0 = σ 18 0 := d0
    have e4 : stlS (st τ 6 c (τ 6 c + (τ 4 c - seS σ c - mvS σ c))) c (seS σ c) 18 4 = τ 18 4 := rfl
    unfold dnS
    rw [e0, e4]
    by_cases q : 0 ≤ x + σ 0 4 ∧ x + σ 0 4 ≤ σ 18 0 - 1
    · rw [if_pos q]
      rw [if_pos q] at hgo
      show (if k = 6 ∧ i = _ then _ else stlS (st τ 6 c (τ 6 c + (τ 4 c - seS σ c - mvS σ c))) c (seS σ c) k i) = _
      rw [if_neg (fun z => p6 z.1), e1, hgo]
      by_cases z1 : k = 18 ∧ i = 5
      · rw [if_pos z1, if_neg (by omega), if_neg (by omega), if_neg (by omega), if_pos z1]
      · rw [if_neg z1]
        by_cases z2 : k = 5 ∧ i = c
        · rw [if_pos z2, if_neg (by omega), if_pos z2]
        · rw [if_neg z2, if_neg z2]
          by_cases z3 : k = 1 ∧ i = c
          · rw [if_pos z3, if_pos z3]
          · rw [if_neg z3, if_neg z3]
            by_cases z4 : k = 18 ∧ i = 4
            · rw [if_pos z4, z4.1, z4.2]; omega
            · rw [if_neg z4, if_neg z1]
    · rw [if_neg q]
      rw [if_neg q] at hgo
      show (if k = 18 ∧ i = 4 then τ 18 4 + mvS σ c else stlS (st τ 6 c (τ 6 c + (τ 4 c - seS σ c - mvS σ c))) c (seS σ c) k i) = _
      rw [e1, hgo]
      by_cases z4 : k = 18 ∧ i = 4
      · rw [if_pos z4, if_neg (by omega), if_neg (by omega), if_pos z4]
      · rw [if_neg z4, if_neg z4]
        by_cases z1 : k = 18 ∧ i = 5
        · rw [if_pos z1, if_neg (by omega), if_neg (by omega), if_pos z1]
        · rw [if_neg z1, if_neg z1]
          by_cases z2 : k = 5 ∧ i = c
          · rw [if_pos z2, if_neg (by omega), if_pos z2]
          · rw [if_neg z2, if_neg z2]
  · have e6 : ∀ j, stlS (st τ 6 c (τ 6 c + (τ 4 c - seS σ c - mvS σ c))) c (seS σ c) 6 j = if j = c then τ 6 c + (τ 4 c - seS σ c - mvS σ c) else τ 6 j := by
      intro j
      show (if 6 = 6 ∧ j = c then τ 6 c + (τ 4 c - seS σ c - mvS σ c) else τ 6 j) = _
      by_cases q : j = c
      · rw [if_pos ⟨rfl, q⟩, if_pos q]
      · rw [if_neg (fun z => q z.2), if_neg q]
    have e0 : stlS (st τ 6 c (τ 6 c + (τ 4 c - seS σ c - mvS σ c))) c (seS σ c) 18 0 = σ 18 0 := d0
    have hc2 : row * σ 18 0 + (x + σ 0 4) = c + σ 0 4 := by omega
    unfold dnS ctS
    rw [e0, hc2]
    by_cases q : 0 ≤ x + σ 0 4 ∧ x + σ 0 4 ≤ σ 18 0 - 1
    · rw [if_pos q]
      show (if 6 = 6 ∧ j = c + σ 0 4 then stlS (st τ 6 c (τ 6 c + (τ 4 c - seS σ c - mvS σ c))) c (seS σ c) 6 (c + σ 0 4) + mvS σ c else stlS (st τ 6 c (τ 6 c + (τ 4 c - seS σ c - mvS σ c))) c (seS σ c) 6 j) = _
      rw [e6, e6, a4]
      by_cases z : j = c + σ 0 4
      · rw [if_pos ⟨rfl, z⟩, if_pos (show inS σ c ∧ j = c + σ 0 4 from ⟨hin.mpr q, z⟩), ← z]
        by_cases y : j = c
        · rw [if_pos y, if_pos y, y]; omega
        · rw [if_neg y, if_neg y]; omega
      · rw [if_neg (fun w => z w.2), if_neg (show ¬ (inS σ c ∧ j = c + σ 0 4) from fun w => z w.2)]
        by_cases y : j = c
        · rw [if_pos y, if_pos y, y]; omega
        · rw [if_neg y, if_neg y]; omega
    · rw [if_neg q]
      show stlS (st τ 6 c (τ 6 c + (τ 4 c - seS σ c - mvS σ c))) c (seS σ c) 6 j = _
      rw [e6, a4, if_neg (show ¬ (inS σ c ∧ j = c + σ 0 4) from fun w => q (hin.mp w.1))]
      by_cases y : j = c
      · rw [if_pos y, if_pos y, y]; omega
      · rw [if_neg y, if_neg y]; omega
theorem KS.dn {σ τ : St} {row x m : Int} (h : KS σ τ) : KS σ (dnS τ row x m) := by
  unfold dnS
  split
  · exact h.st (Or.inl (by decide))
  · exact h.st (Or.inr (by decide))
theorem KS.stl {σ τ : St} {c m : Int} (h : KS σ τ) : KS σ (stlS τ c m) := ((h.st (Or.inl (by decide))).st (Or.inl (by decide))).st (Or.inr (by decide))
/-- behind the drift -/
def dr2 (σ : St) (m : Int) : St := fun k j => if k = 4 ∧ 0 ≤ j ∧ j < m then nxS σ (σ 18 0 * σ 18 1) j else dr σ (σ 18 0 * σ 18 1) k j
def drE (σ : St) : St := dr2 σ (σ 18 0 * σ 18 1)
def D2I (σ : St) (m : Int) (τ : St) : Prop := Eqp τ (dr2 σ m) ∧ ∀ j, 0 ≤ j → j < σ 18 0 * σ 18 1 → τ 6 j = nxS σ (σ 18 0 * σ 18 1) j
theorem d2_0 {σ τ : St} (h : DrI σ (σ 18 0 * σ 18 1) τ) : D2I σ 0 τ := by
  refine ⟨fun k i hp => ?_, h.2⟩
  rw [h.1 k i hp]
  unfold dr2
  rw [if_neg (by omega)]
theorem d2_step {σ τ : St} {m : Int} (h : D2I σ m τ) (hm : 0 ≤ m) (hm2 : m < σ 18 0 * σ 18 1) : D2I σ (m + 1) (st τ 4 m (τ 6 m)) := by
  refine ⟨fun k i hp => ?_, h.2⟩
  have hk := h.1 k i hp
  show (if k = 4 ∧ i = m then τ 6 m else τ k i) = _
  unfold dr2 at hk ⊢
  by_cases z : k = 4 ∧ i = m
  · rw [if_pos z, if_pos (by omega), h.2 m hm hm2, z.2]
  · rw [if_neg z, hk]
    by_cases y : k = 4 ∧ 0 ≤ i ∧ i < m
    · rw [if_pos y, if_pos (by omega)]
    · rw [if_neg y, if_neg (by omega)]
/-! silt -/
def smS (σ : St) (row x : Int) : Int := (if 0 ≤ row + (-1) ∧ row + (-1) ≤ σ 18 1 - 1 then σ 1 ((row + (-1)) * σ 18 0 + x) else 0) + (if 0 ≤ x + (-1) ∧ x + (-1) ≤ σ 18 0 - 1 then σ 1 (row * σ 18 0 + (x + (-1))) else 0) + (if 0 ≤ row + 1 ∧ row + 1 ≤ σ 18 1 - 1 then σ 1 ((row + 1) * σ 18 0 + x) else 0) + (if 0 ≤ x + 1 ∧ x + 1 ≤ σ 18 0 - 1 then σ 1 (row * σ 18 0 + (x + 1)) else 0)
def nbS (σ : St) (row x : Int) : Int := (if 0 ≤ row + (-1) ∧ row + (-1) ≤ σ 18 1 - 1 then 1 else 0) + (if 0 ≤ x + (-1) ∧ x + (-1) ≤ σ 18 0 - 1 then 1 else 0) + (if 0 ≤ row + 1 ∧ row + 1 ≤ σ 18 1 - 1 then 1 else 0) + (if 0 ≤ x + 1 ∧ x + 1 ≤ σ 18 0 - 1 then 1 else 0)
abbrev gaS (σ : St) (row x : Int) : Prop := ¬ σ 2 (row * σ 18 0 + x) = 0 ∧ 0 < nbS σ row x ∧ smS σ row x / nbS σ row x < σ 1 (row * σ 18 0 + x)
theorem ga_yes {σ : St} {row x a b : Int} (ha : a = smS σ row x) (hb : b = nbS σ row x) (h1 : ¬ σ 2 (row * σ 18 0 + x) = 0) (h2 : 0 < b) (h3 : a / b < σ 1 (row * σ 18 0 + x)) : (1 : Int) = if gaS σ row x then 1 else 0 := by
  subst ha hb
  exact (if_pos ⟨h1, h2, h3⟩).symm
theorem ga_no {σ : St} {row x a b : Int} (ha : a = smS σ row x) (hb : b = nbS σ row x) (h : b ≤ 0 ∨ σ 1 (row * σ 18 0 + x) ≤ a / b) : (0 : Int) = if gaS σ row x then 1 else 0 := by
  subst ha hb
  refine (if_neg ?_).symm
  rintro ⟨-, q2, q3⟩
  rcases h with h | h
  · omega
  · exact absurd q3 (Int.not_lt.mpr h)
theorem smS_eqp {σ τ : St} (h : Eqp τ σ) {row x : Int} : smS τ row x = smS σ row x := by
  have e1 : ∀ i, τ 1 i = σ 1 i := fun i => h 1 i (pub_k (by decide) (by decide) (by decide) (by decide))
  have s0 : τ 18 0 = σ 18 0 := h 18 0 (pub_s (by decide))
  have s1 : τ 18 1 = σ 18 1 := h 18 1 (pub_s (by decide))
  unfold smS
  simp only [e1, s0, s1]
theorem nbS_eqp {σ τ : St} (h : Eqp τ σ) {row x : Int} : nbS τ row x = nbS σ row x := by
  have s0 : τ 18 0 = σ 18 0 := h 18 0 (pub_s (by decide))
  have s1 : τ 18 1 = σ 18 1 := h 18 1 (pub_s (by decide))
  unfold nbS
  simp only [s0, s1]
theorem gaS_eqp {σ τ : St} (h : Eqp τ σ) {row x : Int} : gaS τ row x ↔ gaS σ row x := by
  have e1 : ∀ i, τ 1 i = σ 1 i := fun i => h 1 i (pub_k (by decide) (by decide) (by decide) (by decide))
  have e2 : ∀ i, τ 2 i = σ 2 i := fun i => h 2 i (pub_k (by decide) (by decide) (by decide) (by decide))
  have s0 : τ 18 0 = σ 18 0 := h 18 0 (pub_s (by decide))
  unfold gaS
  rw [smS_eqp h, nbS_eqp h, e1, e2, s0]
def slS (σ : St) (c : Int) : Int := if gaS σ (c / σ 18 0) (c % σ 18 0) then 1 else 0
theorem slS_rng {σ : St} {c : Int} : 0 ≤ slS σ c ∧ slS σ c ≤ 1 := by unfold slS; split <;> omega
def SlI (σ : St) (m : Int) (τ : St) : Prop := Eqp τ σ ∧ ∀ j, 0 ≤ j → j < m → τ 3 j = slS σ j
theorem sl_step {σ τ : St} {row x v : Int} (hx0 : 0 ≤ x) (hx : x < σ 18 0) (h : SlI σ (row * σ 18 0 + x) τ) (hv : v = if gaS σ row x then 1 else 0) : SlI σ (row * σ 18 0 + x + 1) (st τ 3 (row * σ 18 0 + x) v) := by
  refine ⟨h.1.st npub3, fun j h0 hj => ?_⟩
  show (if 3 = 3 ∧ j = row * σ 18 0 + x then v else τ 3 j) = _
  by_cases z : j = row * σ 18 0 + x
  · rw [if_pos ⟨rfl, z⟩, hv, z]
    unfold slS
    rw [mod_cell hx0 hx, div_cell hx0 hx]
  · rw [if_neg (fun w => z w.2), h.2 j h0 (by omega)]
def silS (σ : St) (m : Int) : St := fun k j => if k = 1 ∧ 0 ≤ j ∧ j < m then max 0 (σ 1 j - slS σ j) else if k = 18 ∧ j = 2 then σ 18 2 + sumI (slS σ) m else σ k j
def S2I (σ : St) (m : Int) (τ : St) : Prop := Eqp τ (silS σ m) ∧ ∀ j, 0 ≤ j → j < σ 18 0 * σ 18 1 → τ 3 j = slS σ j
theorem s2_0 {σ τ : St} (h : SlI σ (σ 18 0 * σ 18 1) τ) : S2I σ 0 τ := by
  refine ⟨fun k i hp => ?_, h.2⟩
  rw [h.1 k i hp]
  unfold silS
  rw [if_neg (by omega), sumI_0]
  split
  · rename_i h; rw [h.1, h.2]; omega
  · rfl
theorem s2_at {σ τ : St} {m : Int} (h : S2I σ m τ) : τ 1 m = σ 1 m ∧ τ 18 0 = σ 18 0 ∧ τ 18 1 = σ 18 1 := by
  refine ⟨?_, h.1 18 0 (pub_s (by decide)), h.1 18 1 (pub_s (by decide))⟩
  rw [h.1 1 m (pub_k (by decide) (by decide) (by decide) (by decide))]
  unfold silS
  rw [if_neg (by omega), if_neg (by omega)]
theorem s2_step {σ τ : St} {m : Int} (h : S2I σ m τ) (hm : 0 ≤ m) (hm2 : m < σ 18 0 * σ 18 1) : S2I σ (m + 1) (st (st τ 1 m (max 0 (τ 1 m - τ 3 m))) 18 2 (τ 18 2 + τ 3 m)) := by
  refine ⟨fun k i hp => ?_, h.2⟩
  have hk := h.1 k i hp
  have e2 : τ 18 2 = σ 18 2 + sumI (slS σ) m := h.1 18 2 (pub_s (by decide))
  have s2 := sumI_step (f := slS σ) hm
  show (if k = 18 ∧ i = 2 then τ 18 2 + τ 3 m else if k = 1 ∧ i = m then max 0 (τ 1 m - τ 3 m) else τ k i) = _
  rw [(s2_at h).1, h.2 m hm hm2]
  unfold silS at hk ⊢
  by_cases z : k = 18 ∧ i = 2
  · rw [if_pos z, if_neg (by omega), if_pos z]; omega
  · rw [if_neg z]
    by_cases y : k = 1 ∧ i = m
    · rw [if_pos y, if_pos (by omega), y.2]
    · rw [if_neg y, hk, if_neg z, if_neg z]
      by_cases w : k = 1 ∧ 0 ≤ i ∧ i < m
      · rw [if_pos w, if_pos (by omega)]
      · rw [if_neg w, if_neg (by omega)]
def rm_X0_start : Room := { frames := 1, cells := 0, slots := 0, locals := 22 }
set_option maxHeartbeats 4000000 in
set_option maxRecDepth 100000 in
theorem c_X0_start {l : Launch} {D : va_G} {cI cZ : ClassId} {ad : Nat → Nat} {σ : St}  (hD : ∀ τ, va_D (AD ad 45) (wsX cI ad τ))  : JMv l yX0_start cX0_start 1 rm_X0_start D [(cI, .int), (cZ, .boolean)] (AD ad 45) (wsX cI ad) [.ref (ad 2)] σ (fun τ => τ = st (st (st (fl (fl σ 4 0 120) 5 0 120) 18 3 0) 18 4 0) 18 5 0) := by
  refine JMv.of RX0 (by decide +kernel) rfl (Nat.le_of_ble_eq_true rfl) hD ?_
  intro p e s m args below meth c Q J fin H ls hw hl
  generalize ([] : List Loc) = locs at hw ⊢
  have hl : lv_has ls 1 [(0, .ref (ad 2))] := hl
  refine j_aload_n J dX0_start_0 rfl (lv_at hl 0 rfl) ?_
  refine xg_0_0 J hw lk_X0_14 dX0_start_1 ?_
  refine j_iconst J (0) dX0_start_4 ?_
  refine k_X2_fill (k := 4) (v := 0) (σ := σ) hD (by decide) J hw hl.1 lk_X0_26 ⟨Nat.le_of_ble_eq_true rfl, Nat.le_of_ble_eq_true rfl⟩ (Nat.le_of_ble_eq_true rfl) dX0_start_5 (fun H locs hw => ?_)
  refine j_aload_n J dX0_start_8 rfl (lv_at hl 0 rfl) ?_
  refine xg_0_1 J hw lk_X0_20 dX0_start_9 ?_
  refine j_iconst J (0) dX0_start_12 ?_
  refine k_X2_fill (k := 5) (v := 0) (σ := fl σ 4 0 120) hD (by decide) J hw hl.1 lk_X0_26 ⟨Nat.le_of_ble_eq_true rfl, Nat.le_of_ble_eq_true rfl⟩ (Nat.le_of_ble_eq_true rfl) dX0_start_13 (fun H locs hw => ?_)
  refine j_aload_n J dX0_start_16 rfl (lv_at hl 0 rfl) ?_
  refine j_iconst J (0) dX0_start_17 ?_
  refine xs_0_3 J hw lk_X0_29 dX0_start_18 (fun H locs hw => ?_)
  refine j_aload_n J dX0_start_21 rfl (lv_at hl 0 rfl) ?_
  refine j_iconst J (0) dX0_start_22 ?_
  refine xs_0_4 J hw lk_X0_33 dX0_start_23 (fun H locs hw => ?_)
  refine j_aload_n J dX0_start_26 rfl (lv_at hl 0 rfl) ?_
  refine j_iconst J (0) dX0_start_27 ?_
  refine xs_0_5 J hw lk_X0_36 dX0_start_28 (fun H locs hw => ?_)
  exact fin _ _ _ _ _ dX0_start_31 (rfl) hw
theorem k_X0_start {p : Program} {l : Launch} {e : Env} {R : Room} {s : State} {m : MethodId} {args : Array Value} {below : List Frame} {meth : Method} {c : Code} {H : Heap} {locs : List Loc} {Q : State → Prop} {cc : ByteArray} {pc : Nat} {ls : Array Slot} {rest : List Value} {nL : Nat} {own : String} {D : va_G} {σ : St} {cI cZ : ClassId} {ad : Nat → Nat} {index : Nat}  (hD : ∀ τ, va_D (AD ad 45) (wsX cI ad τ))  (J : Jx p m c cc nL s args own D [(cI, .int), (cZ, .boolean)] (AD ad 45) (wsX cI ad)) (hw : jW D (AD ad 45) s.heap (wsX cI ad σ) H locs) (hsz : ls.size = nL) (hlk : Cond.methodLink own index yX0_start ∈ TBw) (hR : 2 ≤ R.frames ∧ 42 ≤ R.locals) (hroom : (rest.map fun v => v.category).sum ≤ 8) (hdg : decode cc pc = .ok (.invokevirtual index, 3)) (kk : ∀ (H1 : Heap) (locs1 : List Loc), jW D (AD ad 45) s.heap (wsX cI ad (st (st (st (fl (fl σ 4 0 120) 5 0 120) 18 3 0) 18 4 0) 18 5 0)) H1 locs1 → W p l e R s m args below meth c H1 locs1 0 0 Q (F0 m (pc + 3) ls rest)) : W p l e R s m args below meth c H locs 0 0 Q (F0 m pc ls (.ref (ad 2) :: rest)) := 
  j_callVv J hw (c_X0_start  hD ) hlk in_X0_start se_X0_start ini_X0 co_X0_start (n := 0) (by decide +kernel) ⟨rfl, rfl, hR.1, hR.2⟩ (j := 2) (ci := 0) rfl rfl rfl rfl hroom hsz ⟨Nat.zero_le _, Nat.zero_le _⟩ rfl hdg (fun τ H1 locs1 hp hw1 => by subst hp; exact kk H1 locs1 hw1)
def rm_X0_come : Room := { frames := 2, cells := 0, slots := 0, locals := 45 }
set_option maxHeartbeats 4000000 in
set_option maxRecDepth 100000 in
theorem c_X0_come {l : Launch} {D : va_G} {cI cZ : ClassId} {ad : Nat → Nat} {σ : St} {cell mu : Int} (hD : ∀ τ, va_D (AD ad 45) (wsX cI ad τ)) (hc : 0 ≤ cell ∧ cell < 120) : JMv l yX0_come cX0_come 3 rm_X0_come D [(cI, .int), (cZ, .boolean)] (AD ad 45) (wsX cI ad) [.ref (ad 2), .int (I cell), .int (I mu)] σ (fun τ => τ = st (st σ 4 cell (σ 4 cell + mu)) 18 3 (σ 18 3 + mu)) := by
  refine JMv.of RX0 (by decide +kernel) rfl (Nat.le_of_ble_eq_true rfl) hD ?_
  intro p e s m args below meth c Q J fin H ls hw hl
  generalize ([] : List Loc) = locs at hw ⊢
  have hl : lv_has ls 3 [(0, .ref (ad 2)), (1, .int (I cell)), (2, .int (I mu))] := hl
  refine j_aload_n J dX0_come_0 rfl (lv_at hl 0 rfl) ?_
  refine xg_0_0 J hw lk_X0_14 dX0_come_1 ?_
  refine j_iload_n J dX0_come_4 rfl (lv_at hl 1 rfl) ?_
  refine j_iload_n J dX0_come_5 rfl (lv_at hl 2 rfl) ?_
  refine k_X2_add (k := 4) (i := cell) (v := mu) (σ := σ) hD (by decide) (show 0 ≤ cell ∧ cell < ((120 : Nat) : Int) from by omega) J hw hl.1 lk_X0_39 ⟨Nat.le_of_ble_eq_true rfl, Nat.le_of_ble_eq_true rfl⟩ (Nat.le_of_ble_eq_true rfl) dX0_come_6 (fun H locs hw => ?_)
  refine j_aload_n J dX0_come_9 rfl (lv_at hl 0 rfl) ?_
  refine j_dup J dX0_come_10 rfl ?_
  refine xg_0_3 J hw lk_X0_29 dX0_come_11 ?_
  refine j_iload_n J dX0_come_14 rfl (lv_at hl 2 rfl) ?_
  refine j_iadd J dX0_come_15 ?_
  refine xs_0_3 J hw lk_X0_29 dX0_come_16 (fun H locs hw => ?_)
  exact fin _ _ _ _ _ dX0_come_19 (rfl) hw
theorem k_X0_come {p : Program} {l : Launch} {e : Env} {R : Room} {s : State} {m : MethodId} {args : Array Value} {below : List Frame} {meth : Method} {c : Code} {H : Heap} {locs : List Loc} {Q : State → Prop} {cc : ByteArray} {pc : Nat} {ls : Array Slot} {rest : List Value} {nL : Nat} {own : String} {D : va_G} {σ : St} {cI cZ : ClassId} {ad : Nat → Nat} {index : Nat} {cell mu : Int} (hD : ∀ τ, va_D (AD ad 45) (wsX cI ad τ)) (hc : 0 ≤ cell ∧ cell < 120) (J : Jx p m c cc nL s args own D [(cI, .int), (cZ, .boolean)] (AD ad 45) (wsX cI ad)) (hw : jW D (AD ad 45) s.heap (wsX cI ad σ) H locs) (hsz : ls.size = nL) (hlk : Cond.methodLink own index yX0_come ∈ TBw) (hR : 3 ≤ R.frames ∧ 67 ≤ R.locals) (hroom : (rest.map fun v => v.category).sum ≤ 8) (hdg : decode cc pc = .ok (.invokevirtual index, 3)) (kk : ∀ (H1 : Heap) (locs1 : List Loc), jW D (AD ad 45) s.heap (wsX cI ad (st (st σ 4 cell (σ 4 cell + mu)) 18 3 (σ 18 3 + mu))) H1 locs1 → W p l e R s m args below meth c H1 locs1 0 0 Q (F0 m (pc + 3) ls rest)) : W p l e R s m args below meth c H locs 0 0 Q (F0 m pc ls (.int (I mu) :: .int (I cell) :: .ref (ad 2) :: rest)) := 
  j_callVv J hw (c_X0_come  hD hc) hlk in_X0_come se_X0_come ini_X0 co_X0_come (n := 2) (by decide +kernel) ⟨rfl, rfl, hR.1, hR.2⟩ (j := 2) (ci := 0) rfl rfl rfl rfl hroom hsz ⟨Nat.zero_le _, Nat.zero_le _⟩ rfl hdg (fun τ H1 locs1 hp hw1 => by subst hp; exact kk H1 locs1 hw1)
def rm_X0_settle : Room := { frames := 2, cells := 0, slots := 0, locals := 45 }
set_option maxHeartbeats 4000000 in
set_option maxRecDepth 100000 in
theorem c_X0_settle {l : Launch} {D : va_G} {cI cZ : ClassId} {ad : Nat → Nat} {σ : St} {cell mu : Int} (hD : ∀ τ, va_D (AD ad 45) (wsX cI ad τ)) (hc : 0 ≤ cell ∧ cell < 120) (hm : 0 ≤ mu ∧ mu ≤ 900000) (hlo : 0 ≤ σ 5 cell ∧ σ 5 cell ≤ 3) (hb2 : 0 ≤ σ 1 cell ∧ σ 1 cell ≤ 400) : JMv l yX0_settle cX0_settle 5 rm_X0_settle D [(cI, .int), (cZ, .boolean)] (AD ad 45) (wsX cI ad) [.ref (ad 2), .ref (ad 1), .int (I cell), .int (I mu)] σ (fun τ => τ = stlS σ cell mu) := by
  refine JMv.of RX0 (by decide +kernel) rfl (Nat.le_of_ble_eq_true rfl) hD ?_
  intro p e s m args below meth c Q J fin H ls hw hl
  generalize ([] : List Loc) = locs at hw ⊢
  have hl : lv_has ls 5 [(0, .ref (ad 2)), (1, .ref (ad 1)), (2, .int (I cell)), (3, .int (I mu))] := hl
  refine j_aload_n J dX0_settle_0 rfl (lv_at hl 0 rfl) ?_
  refine xg_0_1 J hw lk_X0_20 dX0_settle_1 ?_
  refine j_iload_n J dX0_settle_4 rfl (lv_at hl 2 rfl) ?_
  refine k_X2_get (k := 5) (i := cell) (σ := σ) hD (by decide) (show 0 ≤ cell ∧ cell < ((120 : Nat) : Int) from by omega) J hw hl.1 lk_X0_55 ⟨Nat.le_of_ble_eq_true rfl, Nat.le_of_ble_eq_true rfl⟩ (Nat.le_of_ble_eq_true rfl) dX0_settle_5 (fun H locs hw => ?_)
  refine j_iload_n J dX0_settle_8 rfl (lv_at hl 3 rfl) ?_
  refine j_iadd J dX0_settle_9 ?_
  refine j_istore J (lv' := [(4, .int (I ((σ 5 cell) + mu))), (0, .ref (ad 2)), (1, .ref (ad 1)), (2, .int (I cell)), (3, .int (I mu))]) hl dX0_settle_10 (by decide) rfl (fun ls hl => ?_)
  refine j_aload_n J dX0_settle_12 rfl (lv_at hl 2 rfl) ?_
  refine j_iload_n J dX0_settle_13 rfl (lv_at hl 3 rfl) ?_
  refine j_iload J dX0_settle_14 (lv_at hl 0 rfl) ?_
  refine j_iconst J (4) dX0_settle_16 ?_
  refine j_idiv J (show 0 ≤ (σ 5 cell) + mu ∧ ((σ 5 cell) + mu) < 2147483648 ∧ 0 < 4 ∧ 4 < 2147483648 from by omega) dX0_settle_17 ?_
  refine k_X1_raise (cell := cell) (by1 := ((σ 5 cell) + mu) / 4) (σ := σ) hD (show 0 ≤ cell ∧ cell < 120 from by omega) (show 0 ≤ (((σ 5 cell) + mu) / 4) ∧ (((σ 5 cell) + mu) / 4) ≤ 1000000 from by omega) (show 0 ≤ σ 1 cell ∧ σ 1 cell ≤ 400 from by omega) J hw hl.1 lk_X0_78 ⟨Nat.le_of_ble_eq_true rfl, Nat.le_of_ble_eq_true rfl⟩ (Nat.le_of_ble_eq_true rfl) dX0_settle_18 (fun H locs hw => ?_)
  refine j_aload_n J dX0_settle_21 rfl (lv_at hl 1 rfl) ?_
  refine xg_0_1 J hw lk_X0_20 dX0_settle_22 ?_
  refine j_iload_n J dX0_settle_25 rfl (lv_at hl 3 rfl) ?_
  refine j_iload J dX0_settle_26 (lv_at hl 0 rfl) ?_
  refine j_iconst J (4) dX0_settle_28 ?_
  refine j_irem J (show 0 ≤ (σ 5 cell) + mu ∧ ((σ 5 cell) + mu) < 2147483648 ∧ 0 < 4 ∧ 4 < 2147483648 from by omega) dX0_settle_29 ?_
  refine k_X2_put (k := 5) (i := cell) (v := ((σ 5 cell) + mu) % 4) (σ := st σ 1 cell (max 0 (σ 1 cell - (((σ 5 cell) + mu) / 4)))) hD (by decide) (show 0 ≤ cell ∧ cell < ((120 : Nat) : Int) from by omega) J hw hl.1 lk_X0_71 ⟨Nat.le_of_ble_eq_true rfl, Nat.le_of_ble_eq_true rfl⟩ (Nat.le_of_ble_eq_true rfl) dX0_settle_30 (fun H locs hw => ?_)
  refine j_pop J dX0_settle_33 rfl ?_
  refine j_aload_n J dX0_settle_34 rfl (lv_at hl 1 rfl) ?_
  refine j_dup J dX0_settle_35 rfl ?_
  refine xg_0_5 J hw lk_X0_36 dX0_settle_36 ?_
  refine j_iload_n J dX0_settle_39 rfl (lv_at hl 4 rfl) ?_
  refine j_iadd J dX0_settle_40 ?_
  refine xs_0_5 J hw lk_X0_36 dX0_settle_41 (fun H locs hw => ?_)
  exact fin _ _ _ _ _ dX0_settle_44 (rfl) hw
theorem k_X0_settle {p : Program} {l : Launch} {e : Env} {R : Room} {s : State} {m : MethodId} {args : Array Value} {below : List Frame} {meth : Method} {c : Code} {H : Heap} {locs : List Loc} {Q : State → Prop} {cc : ByteArray} {pc : Nat} {ls : Array Slot} {rest : List Value} {nL : Nat} {own : String} {D : va_G} {σ : St} {cI cZ : ClassId} {ad : Nat → Nat} {index : Nat} {cell mu : Int} (hD : ∀ τ, va_D (AD ad 45) (wsX cI ad τ)) (hc : 0 ≤ cell ∧ cell < 120) (hm : 0 ≤ mu ∧ mu ≤ 900000) (hlo : 0 ≤ σ 5 cell ∧ σ 5 cell ≤ 3) (hb2 : 0 ≤ σ 1 cell ∧ σ 1 cell ≤ 400) (J : Jx p m c cc nL s args own D [(cI, .int), (cZ, .boolean)] (AD ad 45) (wsX cI ad)) (hw : jW D (AD ad 45) s.heap (wsX cI ad σ) H locs) (hsz : ls.size = nL) (hlk : Cond.methodLink own index yX0_settle ∈ TBw) (hR : 3 ≤ R.frames ∧ 69 ≤ R.locals) (hroom : (rest.map fun v => v.category).sum ≤ 8) (hdg : decode cc pc = .ok (.invokevirtual index, 3)) (kk : ∀ (H1 : Heap) (locs1 : List Loc), jW D (AD ad 45) s.heap (wsX cI ad (stlS σ cell mu)) H1 locs1 → W p l e R s m args below meth c H1 locs1 0 0 Q (F0 m (pc + 3) ls rest)) : W p l e R s m args below meth c H locs 0 0 Q (F0 m pc ls (.int (I mu) :: .int (I cell) :: .ref (ad 1) :: .ref (ad 2) :: rest)) := 
  j_callVv J hw (c_X0_settle  hD hc hm hlo hb2) hlk in_X0_settle se_X0_settle ini_X0 co_X0_settle (n := 3) (by decide +kernel) ⟨rfl, rfl, hR.1, hR.2⟩ (j := 2) (ci := 0) rfl rfl rfl rfl hroom hsz ⟨Nat.zero_le _, Nat.zero_le _⟩ rfl hdg (fun τ H1 locs1 hp hw1 => by subst hp; exact kk H1 locs1 hw1)
def rm_X0_driftOn : Room := { frames := 2, cells := 0, slots := 0, locals := 45 }
set_option maxHeartbeats 4000000 in
set_option maxRecDepth 100000 in
theorem c_X0_driftOn {l : Launch} {D : va_G} {cI cZ : ClassId} {ad : Nat → Nat} {σ : St} {row x mu : Int} (hD : ∀ τ, va_D (AD ad 45) (wsX cI ad τ)) (hd : Dim σ) (hr : 0 ≤ row ∧ row < σ 18 1) (hx : -1 ≤ x ∧ x ≤ 12) : JMv l yX0_driftOn cX0_driftOn 5 rm_X0_driftOn D [(cI, .int), (cZ, .boolean)] (AD ad 45) (wsX cI ad) [.ref (ad 2), .ref (ad 1), .int (I row), .int (I x), .int (I mu)] σ (fun τ => τ = dnS σ row x mu) := by
  refine JMv.of RX0 (by decide +kernel) rfl (Nat.le_of_ble_eq_true rfl) hD ?_
  intro p e s m args below meth c Q J fin H ls hw hl
  generalize ([] : List Loc) = locs at hw ⊢
  have hl : lv_has ls 5 [(0, .ref (ad 2)), (1, .ref (ad 1)), (2, .int (I row)), (3, .int (I x)), (4, .int (I mu))] := hl
  have hd1 := hd.1; have hd2 := hd.2.1; have hd3 := hd.2.2.1; have hd4 := hd.2.2.2; have hm := hd.mul
  refine j_aload_n J dX0_driftOn_0 rfl (lv_at hl 1 rfl) ?_
  refine j_iload_n J dX0_driftOn_1 rfl (lv_at hl 3 rfl) ?_
  refine k_X1_hasColumn (col := x) (σ := σ) hD (show Dim σ from hd) (show rg x from by unfold rg; omega) J hw hl.1 lk_X0_74 ⟨Nat.le_of_ble_eq_true rfl, Nat.le_of_ble_eq_true rfl⟩ (Nat.le_of_ble_eq_true rfl) dX0_driftOn_2 (fun H locs hw => ?_)
  refine j_ifeqB J 26 dX0_driftOn_5 (by decide) (fun (h_1 : ¬ (0 ≤ x ∧ x ≤ σ 18 0 - 1)) => ?_) (fun (h_1 : 0 ≤ x ∧ x ≤ σ 18 0 - 1) => ?_)
  · refine j_aload_n J dX0_driftOn_26 rfl (lv_at hl 0 rfl) ?_
    refine j_dup J dX0_driftOn_27 rfl ?_
    refine xg_0_4 J hw lk_X0_33 dX0_driftOn_28 ?_
    refine j_iload J dX0_driftOn_31 (lv_at hl 4 rfl) ?_
    refine j_iadd J dX0_driftOn_33 ?_
    refine xs_0_4 J hw lk_X0_33 dX0_driftOn_34 (fun H locs hw => ?_)
    exact fin _ _ _ _ _ dX0_driftOn_37 (by first | exact (if_pos (by assumption)).symm | exact (if_neg (by assumption)).symm) hw
  · refine j_aload_n J dX0_driftOn_8 rfl (lv_at hl 0 rfl) ?_
    refine xg_0_2 J hw lk_X0_23 dX0_driftOn_9 ?_
    refine j_aload_n J dX0_driftOn_12 rfl (lv_at hl 1 rfl) ?_
    refine j_iload_n J dX0_driftOn_13 rfl (lv_at hl 2 rfl) ?_
    refine j_iload_n J dX0_driftOn_14 rfl (lv_at hl 3 rfl) ?_
    refine k_X1_number (row := row) (col := x) (σ := σ) hD  J hw hl.1 lk_X0_51 ⟨Nat.le_of_ble_eq_true rfl, Nat.le_of_ble_eq_true rfl⟩ (Nat.le_of_ble_eq_true rfl) dX0_driftOn_15 (fun H locs hw => ?_)
    refine j_iload J dX0_driftOn_18 (lv_at hl 4 rfl) ?_
    have hci := cell_in (x := x) hr.1 hr.2 (by omega) (show x < σ 18 0 by omega)
    refine k_X2_add (k := 6) (i := row * σ 18 0 + x) (v := mu) (σ := σ) hD (by decide) (show 0 ≤ row * σ 18 0 + x ∧ (row * σ 18 0 + x) < ((120 : Nat) : Int) from by omega) J hw hl.1 lk_X0_39 ⟨Nat.le_of_ble_eq_true rfl, Nat.le_of_ble_eq_true rfl⟩ (Nat.le_of_ble_eq_true rfl) dX0_driftOn_20 (fun H locs hw => ?_)
    refine j_goto J 37 dX0_driftOn_23 (by decide) ?_
    exact fin _ _ _ _ _ dX0_driftOn_37 (by first | exact (if_pos (by assumption)).symm | exact (if_neg (by assumption)).symm) hw
theorem k_X0_driftOn {p : Program} {l : Launch} {e : Env} {R : Room} {s : State} {m : MethodId} {args : Array Value} {below : List Frame} {meth : Method} {c : Code} {H : Heap} {locs : List Loc} {Q : State → Prop} {cc : ByteArray} {pc : Nat} {ls : Array Slot} {rest : List Value} {nL : Nat} {own : String} {D : va_G} {σ : St} {cI cZ : ClassId} {ad : Nat → Nat} {index : Nat} {row x mu : Int} (hD : ∀ τ, va_D (AD ad 45) (wsX cI ad τ)) (hd : Dim σ) (hr : 0 ≤ row ∧ row < σ 18 1) (hx : -1 ≤ x ∧ x ≤ 12) (J : Jx p m c cc nL s args own D [(cI, .int), (cZ, .boolean)] (AD ad 45) (wsX cI ad)) (hw : jW D (AD ad 45) s.heap (wsX cI ad σ) H locs) (hsz : ls.size = nL) (hlk : Cond.methodLink own index yX0_driftOn ∈ TBw) (hR : 3 ≤ R.frames ∧ 69 ≤ R.locals) (hroom : (rest.map fun v => v.category).sum ≤ 8) (hdg : decode cc pc = .ok (.invokevirtual index, 3)) (kk : ∀ (H1 : Heap) (locs1 : List Loc), jW D (AD ad 45) s.heap (wsX cI ad (dnS σ row x mu)) H1 locs1 → W p l e R s m args below meth c H1 locs1 0 0 Q (F0 m (pc + 3) ls rest)) : W p l e R s m args below meth c H locs 0 0 Q (F0 m pc ls (.int (I mu) :: .int (I x) :: .int (I row) :: .ref (ad 1) :: .ref (ad 2) :: rest)) := 
  j_callVv J hw (c_X0_driftOn  hD hd hr hx) hlk in_X0_driftOn se_X0_driftOn ini_X0 co_X0_driftOn (n := 4) (by decide +kernel) ⟨rfl, rfl, hR.1, hR.2⟩ (j := 2) (ci := 0) rfl rfl rfl rfl hroom hsz ⟨Nat.zero_le _, Nat.zero_le _⟩ rfl hdg (fun τ H1 locs1 hp hw1 => by subst hp; exact kk H1 locs1 hw1)
def rm_X0_drift : Room := { frames := 3, cells := 0, slots := 0, locals := 69 }
set_option maxHeartbeats 4000000 in
set_option maxRecDepth 100000 in
theorem c_X0_drift {l : Launch} {D : va_G} {cI cZ : ClassId} {ad : Nat → Nat} {σ : St}  (hD : ∀ τ, va_D (AD ad 45) (wsX cI ad τ)) (hB : Bd σ) : JMv l yX0_drift cX0_drift 8 rm_X0_drift D [(cI, .int), (cZ, .boolean)] (AD ad 45) (wsX cI ad) [.ref (ad 2), .ref (ad 1), .int (I (σ 0 4))] σ (fun τ => Eqp τ (drE σ) ∧ KS σ τ) := by
  refine JMv.of RX0 (by decide +kernel) rfl (Nat.le_of_ble_eq_true rfl) hD ?_
  intro p e s m args below meth c Q J fin H ls hw hl
  generalize ([] : List Loc) = locs at hw ⊢
  have hl : lv_has ls 8 [(0, .ref (ad 2)), (1, .ref (ad 1)), (2, .int (I (σ 0 4)))] := hl
  have hd : Dim _ := hB.dim
  have hd1 := hd.1; have hd2 := hd.2.1; have hd3 := hd.2.2.1; have hd4 := hd.2.2.2; have hm := hd.mul
  have htr := hB.trips; have hcu := hB.current
  refine j_aload_n J dX0_drift_0 rfl (lv_at hl 0 rfl) ?_
  refine xg_0_2 J hw lk_X0_23 dX0_drift_1 ?_
  refine j_iconst J (0) dX0_drift_4 ?_
  refine k_X2_fill (k := 6) (v := 0) (σ := σ) hD (by decide) J hw hl.1 lk_X0_26 ⟨Nat.le_of_ble_eq_true rfl, Nat.le_of_ble_eq_true rfl⟩ (Nat.le_of_ble_eq_true rfl) dX0_drift_5 (fun H locs hw => ?_)
  refine j_iconst J (0) dX0_drift_8 ?_
  refine j_istore_n J (lv' := [(3, .int (I 0)), (0, .ref (ad 2)), (1, .ref (ad 1)), (2, .int (I (σ 0 4)))]) hl dX0_drift_9 rfl (by decide) rfl (fun ls hl => ?_)
  have L10 : ∀ n : Nat, ∀ (τ : St) (row : Int), (0 ≤ row ∧ row ≤ σ 18 1) → (DrI σ (row * σ 18 0) τ) → (KS σ τ) → ((σ 18 1 - row).toNat) < n → ∀ (H : Heap) (locs : List Loc) (ls : Array Slot), jW D (AD ad 45) s.heap (wsX cI ad τ) H locs → lv_has ls 8 [(3, .int (I row)), (0, .ref (ad 2)), (1, .ref (ad 1)), (2, .int (I (σ 0 4)))] → W p l e rm_X0_drift s m args below meth c H locs 0 0 Q (F0 m 10 ls []) := by
    intro n
    induction n with
    | zero =>
      intro τ row hi0 hD0 hK0 hm H locs ls hw hl
      exact absurd hm (Nat.not_lt_zero _)
    | succ n ih =>
      intro τ row hi0 hD0 hK0 hm H locs ls hw hl
      have ih10 := ih
      have d1 := (dr_at hD0).2.2.2; have d0 := (dr_at hD0).2.2.1
      refine j_iload_n J dX0_drift_10 rfl (lv_at hl 0 rfl) ?_
      refine j_aload_n J dX0_drift_11 rfl (lv_at hl 2 rfl) ?_
      refine xg_1_4 J hw lk_X0_43 dX0_drift_12 ?_
      refine j_icmp_ge J 130 (show rg row by unfold rg; omega) (show rg (τ 18 1) by unfold rg; omega) dX0_drift_15 (by decide) (fun (h_1 : (τ 18 1) ≤ row) => ?_) (fun (h_1 : row < (τ 18 1)) => ?_)
      · refine j_iconst J (0) dX0_drift_130 ?_
        refine j_istore_n J (lv' := [(3, .int (I 0)), (0, .ref (ad 2)), (1, .ref (ad 1)), (2, .int (I (σ 0 4)))]) hl dX0_drift_131 rfl (by decide) rfl (fun ls hl => ?_)
        have L132 : ∀ n : Nat, ∀ (τ : St) (i : Int), (0 ≤ i ∧ i ≤ σ 18 0 * σ 18 1) → (D2I σ i τ) → (KS σ τ) → ((σ 18 0 * σ 18 1 - i).toNat) < n → ∀ (H : Heap) (locs : List Loc) (ls : Array Slot), jW D (AD ad 45) s.heap (wsX cI ad τ) H locs → lv_has ls 8 [(3, .int (I i)), (0, .ref (ad 2)), (1, .ref (ad 1))] → W p l e rm_X0_drift s m args below meth c H locs 0 0 Q (F0 m 132 ls []) := by
          intro n
          induction n with
          | zero =>
            intro τ i hi1 h2 hK hm H locs ls hw hl
            exact absurd hm (Nat.not_lt_zero _)
          | succ n ih =>
            intro τ i hi1 h2 hK hm H locs ls hw hl
            have ih132 := ih
            have d0 : τ 18 0 = σ 18 0 := h2.1 18 0 (pub_s (by decide))
            have d1 : τ 18 1 = σ 18 1 := h2.1 18 1 (pub_s (by decide))
            have d01 : τ 18 0 * τ 18 1 = σ 18 0 * σ 18 1 := by rw [d0, d1]
            refine j_iload_n J dX0_drift_132 rfl (lv_at hl 0 rfl) ?_
            refine j_aload_n J dX0_drift_133 rfl (lv_at hl 2 rfl) ?_
            refine k_X1_size (σ := τ) hD  J hw hl.1 lk_X0_67 ⟨Nat.le_of_ble_eq_true rfl, Nat.le_of_ble_eq_true rfl⟩ (Nat.le_of_ble_eq_true rfl) dX0_drift_134 (fun H locs hw => ?_)
            refine j_icmp_ge J 163 (show rg i by unfold rg; omega) (show rg (τ 18 0 * τ 18 1) by unfold rg; omega) dX0_drift_137 (by decide) (fun (h_2 : (τ 18 0 * τ 18 1) ≤ i) => ?_) (fun (h_2 : i < (τ 18 0 * τ 18 1)) => ?_)
            · exact fin _ _ _ _ _ dX0_drift_163 (by have e9 : i = σ 18 0 * σ 18 1 := (by omega); rw [e9] at h2; exact ⟨h2.1, hK⟩) hw
            · refine j_aload_n J dX0_drift_140 rfl (lv_at hl 1 rfl) ?_
              refine xg_0_0 J hw lk_X0_14 dX0_drift_141 ?_
              refine j_iload_n J dX0_drift_144 rfl (lv_at hl 0 rfl) ?_
              refine j_aload_n J dX0_drift_145 rfl (lv_at hl 1 rfl) ?_
              refine xg_0_2 J hw lk_X0_23 dX0_drift_146 ?_
              refine j_iload_n J dX0_drift_149 rfl (lv_at hl 0 rfl) ?_
              refine k_X2_get (k := 6) (i := i) (σ := τ) hD (by decide) (show 0 ≤ i ∧ i < ((120 : Nat) : Int) from by omega) J hw hl.1 lk_X0_55 ⟨Nat.le_of_ble_eq_true rfl, Nat.le_of_ble_eq_true rfl⟩ (Nat.le_of_ble_eq_true rfl) dX0_drift_150 (fun H locs hw => ?_)
              refine k_X2_put (k := 4) (i := i) (v := τ 6 i) (σ := τ) hD (by decide) (show 0 ≤ i ∧ i < ((120 : Nat) : Int) from by omega) J hw hl.1 lk_X0_71 ⟨Nat.le_of_ble_eq_true rfl, Nat.le_of_ble_eq_true rfl⟩ (Nat.le_of_ble_eq_true rfl) dX0_drift_153 (fun H locs hw => ?_)
              refine j_pop J dX0_drift_156 rfl ?_
              refine j_iinc J (lv' := [(3, .int (I (i + 1))), (0, .ref (ad 2)), (1, .ref (ad 1))]) (k := 0) hl dX0_drift_157 rfl (by decide) rfl (fun ls hl => ?_)
              refine j_goto J 132 dX0_drift_160 (by decide) ?_
              exact ih132 (st τ 4 i (τ 6 i)) (i + 1) (by omega) (d2_step h2 hi1.1 (by omega)) (hK.st (Or.inl (by decide))) (by omega) _ _ _ hw (lv_sub hl [0, 1, 2] rfl)
        exact L132 _ τ 0 (by omega) (d2_0 (by rw [Int.mul_comm, show σ 18 1 = row by omega]; exact hD0)) (hK0) (Nat.lt_succ_self _) _ _ _ hw (lv_sub hl [0, 1, 2] rfl)
      · refine j_iconst J (0) dX0_drift_18 ?_
        refine j_istore J (lv' := [(4, .int (I 0)), (3, .int (I row)), (0, .ref (ad 2)), (1, .ref (ad 1)), (2, .int (I (σ 0 4)))]) hl dX0_drift_19 (by decide) rfl (fun ls hl => ?_)
        have L21 : ∀ n : Nat, ∀ (τ : St) (x : Int), (0 ≤ x ∧ x ≤ σ 18 0) → (DrI σ (row * σ 18 0 + x) τ) → (KS σ τ) → ((σ 18 0 - x).toNat) < n → ∀ (H : Heap) (locs : List Loc) (ls : Array Slot), jW D (AD ad 45) s.heap (wsX cI ad τ) H locs → lv_has ls 8 [(4, .int (I x)), (3, .int (I row)), (0, .ref (ad 2)), (1, .ref (ad 1)), (2, .int (I (σ 0 4)))] → W p l e rm_X0_drift s m args below meth c H locs 0 0 Q (F0 m 21 ls []) := by
          intro n
          induction n with
          | zero =>
            intro τ x hx0 hQ hK hm H locs ls hw hl
            exact absurd hm (Nat.not_lt_zero _)
          | succ n ih =>
            intro τ x hx0 hQ hK hm H locs ls hw hl
            have ih21 := ih
            have ha := dr_at hQ
            have d0 := ha.2.2.1; have d1 := ha.2.2.2
            refine j_iload J dX0_drift_21 (lv_at hl 0 rfl) ?_
            refine j_aload_n J dX0_drift_23 rfl (lv_at hl 3 rfl) ?_
            refine xg_1_3 J hw lk_X0_48 dX0_drift_24 ?_
            refine j_icmp_ge J 124 (show rg x by unfold rg; omega) (show rg (τ 18 0) by unfold rg; omega) dX0_drift_27 (by decide) (fun (h_3 : (τ 18 0) ≤ x) => ?_) (fun (h_3 : x < (τ 18 0)) => ?_)
            · refine j_iinc J (lv' := [(3, .int (I (row + 1))), (4, .int (I x)), (0, .ref (ad 2)), (1, .ref (ad 1)), (2, .int (I (σ 0 4)))]) (k := 1) hl dX0_drift_124 rfl (by decide) rfl (fun ls hl => ?_)
              refine j_goto J 10 dX0_drift_127 (by decide) ?_
              exact ih10 τ (row + 1) (by omega) (by rw [show (row + 1) * σ 18 0 = row * σ 18 0 + x by rw [Int.add_mul, Int.one_mul, show x = σ 18 0 by omega]]; exact hQ) (hK) (by omega) _ _ _ hw (lv_sub hl [0, 2, 3, 4] rfl)
            · have hci := cell_in hi0.1 (show row < σ 18 1 by omega) hx0.1 (show x < σ 18 0 by omega)
              have a4 := ha.1 (row * σ 18 0 + x)
              have a5 := (ha.2.1 _ (Int.le_refl _)).1
              have a1 := (ha.2.1 _ (Int.le_refl _)).2
              have b4 := hB.cloud (row * σ 18 0 + x); have b5 := hB.loose (row * σ 18 0 + x); have b1 := hB.depth (row * σ 18 0 + x)
              have hdt : Dim τ := by unfold Dim; omega
              refine j_aload_n J dX0_drift_30 rfl (lv_at hl 3 rfl) ?_
              refine j_iload_n J dX0_drift_31 rfl (lv_at hl 1 rfl) ?_
              refine j_iload J dX0_drift_32 (lv_at hl 0 rfl) ?_
              refine k_X1_number (row := row) (col := x) (σ := τ) hD  J hw hl.1 lk_X0_51 ⟨Nat.le_of_ble_eq_true rfl, Nat.le_of_ble_eq_true rfl⟩ (Nat.le_of_ble_eq_true rfl) dX0_drift_34 (fun H locs hw => ?_)
              rw [d0]
              refine j_istore J (lv' := [(5, .int (I (row * σ 18 0 + x))), (4, .int (I x)), (3, .int (I row)), (0, .ref (ad 2)), (1, .ref (ad 1)), (2, .int (I (σ 0 4)))]) hl dX0_drift_37 (by decide) rfl (fun ls hl => ?_)
              refine j_aload_n J dX0_drift_39 rfl (lv_at hl 3 rfl) ?_
              refine xg_0_0 J hw lk_X0_14 dX0_drift_40 ?_
              refine j_iload J dX0_drift_43 (lv_at hl 0 rfl) ?_
              refine k_X2_get (k := 4) (i := row * σ 18 0 + x) (σ := τ) hD (by decide) (show 0 ≤ row * σ 18 0 + x ∧ (row * σ 18 0 + x) < ((120 : Nat) : Int) from by omega) J hw hl.1 lk_X0_55 ⟨Nat.le_of_ble_eq_true rfl, Nat.le_of_ble_eq_true rfl⟩ (Nat.le_of_ble_eq_true rfl) dX0_drift_45 (fun H locs hw => ?_)
              refine j_iconst J (4) dX0_drift_48 ?_
              refine j_idiv J (show 0 ≤ τ 4 (row * σ 18 0 + x) ∧ (τ 4 (row * σ 18 0 + x)) < 2147483648 ∧ 0 < 4 ∧ 4 < 2147483648 from by omega) dX0_drift_49 ?_
              refine j_istore J (lv' := [(6, .int (I ((τ 4 (row * σ 18 0 + x)) / 4))), (5, .int (I (row * σ 18 0 + x))), (4, .int (I x)), (3, .int (I row)), (0, .ref (ad 2)), (1, .ref (ad 1)), (2, .int (I (σ 0 4)))]) hl dX0_drift_50 (by decide) rfl (fun ls hl => ?_)
              refine j_iload_n J dX0_drift_52 rfl (lv_at hl 6 rfl) ?_
              refine j_if_ne J 60 (show rg (σ 0 4) by unfold rg; omega) dX0_drift_53 (by decide) (fun (h_4 : ¬ (σ 0 4) = 0) => ?_) (fun (h_4 : (σ 0 4) = 0) => ?_)
              · refine j_aload_n J dX0_drift_60 rfl (lv_at hl 4 rfl) ?_
                refine xg_0_0 J hw lk_X0_14 dX0_drift_61 ?_
                refine j_iload J dX0_drift_64 (lv_at hl 1 rfl) ?_
                refine k_X2_get (k := 4) (i := row * σ 18 0 + x) (σ := τ) hD (by decide) (show 0 ≤ row * σ 18 0 + x ∧ (row * σ 18 0 + x) < ((120 : Nat) : Int) from by omega) J hw hl.1 lk_X0_55 ⟨Nat.le_of_ble_eq_true rfl, Nat.le_of_ble_eq_true rfl⟩ (Nat.le_of_ble_eq_true rfl) dX0_drift_66 (fun H locs hw => ?_)
                refine j_iconst J (2) dX0_drift_69 ?_
                refine j_idiv J (show 0 ≤ τ 4 (row * σ 18 0 + x) ∧ (τ 4 (row * σ 18 0 + x)) < 2147483648 ∧ 0 < 2 ∧ 2 < 2147483648 from by omega) dX0_drift_70 ?_
                refine j_istore J (lv' := [(7, .int (I ((τ 4 (row * σ 18 0 + x)) / 2))), (6, .int (I ((τ 4 (row * σ 18 0 + x)) / 4))), (5, .int (I (row * σ 18 0 + x))), (4, .int (I x)), (3, .int (I row)), (0, .ref (ad 2)), (1, .ref (ad 1)), (2, .int (I (σ 0 4)))]) hl dX0_drift_71 (by decide) rfl (fun ls hl => ?_)
                refine j_aload_n J dX0_drift_73 rfl (lv_at hl 5 rfl) ?_
                refine xg_0_2 J hw lk_X0_23 dX0_drift_74 ?_
                refine j_iload J dX0_drift_77 (lv_at hl 2 rfl) ?_
                refine j_aload_n J dX0_drift_79 rfl (lv_at hl 5 rfl) ?_
                refine xg_0_0 J hw lk_X0_14 dX0_drift_80 ?_
                refine j_iload J dX0_drift_83 (lv_at hl 2 rfl) ?_
                refine k_X2_get (k := 4) (i := row * σ 18 0 + x) (σ := τ) hD (by decide) (show 0 ≤ row * σ 18 0 + x ∧ (row * σ 18 0 + x) < ((120 : Nat) : Int) from by omega) J hw hl.1 lk_X0_55 ⟨Nat.le_of_ble_eq_true rfl, Nat.le_of_ble_eq_true rfl⟩ (Nat.le_of_ble_eq_true rfl) dX0_drift_85 (fun H locs hw => ?_)
                refine j_iload J dX0_drift_88 (lv_at hl 1 rfl) ?_
                refine j_isub J dX0_drift_90 ?_
                refine j_iload J dX0_drift_91 (lv_at hl 0 rfl) ?_
                refine j_isub J dX0_drift_93 ?_
                refine k_X2_add (k := 6) (i := row * σ 18 0 + x) (v := ((τ 4 (row * σ 18 0 + x)) - ((τ 4 (row * σ 18 0 + x)) / 4)) - ((τ 4 (row * σ 18 0 + x)) / 2)) (σ := τ) hD (by decide) (show 0 ≤ row * σ 18 0 + x ∧ (row * σ 18 0 + x) < ((120 : Nat) : Int) from by omega) J hw hl.1 lk_X0_39 ⟨Nat.le_of_ble_eq_true rfl, Nat.le_of_ble_eq_true rfl⟩ (Nat.le_of_ble_eq_true rfl) dX0_drift_94 (fun H locs hw => ?_)
                refine j_aload_n J dX0_drift_97 rfl (lv_at hl 5 rfl) ?_
                refine j_aload_n J dX0_drift_98 rfl (lv_at hl 6 rfl) ?_
                refine j_iload J dX0_drift_99 (lv_at hl 2 rfl) ?_
                refine j_iload J dX0_drift_101 (lv_at hl 1 rfl) ?_
                refine k_X0_settle (cell := row * σ 18 0 + x) (mu := (τ 4 (row * σ 18 0 + x)) / 4) (σ := st τ 6 (row * σ 18 0 + x) (τ 6 (row * σ 18 0 + x) + (((τ 4 (row * σ 18 0 + x)) - ((τ 4 (row * σ 18 0 + x)) / 4)) - ((τ 4 (row * σ 18 0 + x)) / 2)))) hD (show 0 ≤ (row * σ 18 0 + x) ∧ (row * σ 18 0 + x) < 120 from by omega) (show 0 ≤ ((τ 4 (row * σ 18 0 + x)) / 4) ∧ ((τ 4 (row * σ 18 0 + x)) / 4) ≤ 900000 from by omega) (show 0 ≤ τ 5 (row * σ 18 0 + x) ∧ τ 5 (row * σ 18 0 + x) ≤ 3 from by omega) (show 0 ≤ τ 1 (row * σ 18 0 + x) ∧ τ 1 (row * σ 18 0 + x) ≤ 400 from by omega) J hw hl.1 lk_X0_59 ⟨Nat.le_of_ble_eq_true rfl, Nat.le_of_ble_eq_true rfl⟩ (Nat.le_of_ble_eq_true rfl) dX0_drift_103 (fun H locs hw => ?_)
                refine j_aload_n J dX0_drift_106 rfl (lv_at hl 5 rfl) ?_
                refine j_aload_n J dX0_drift_107 rfl (lv_at hl 6 rfl) ?_
                refine j_iload_n J dX0_drift_108 rfl (lv_at hl 4 rfl) ?_
                refine j_iload J dX0_drift_109 (lv_at hl 3 rfl) ?_
                refine j_iload_n J dX0_drift_111 rfl (lv_at hl 7 rfl) ?_
                refine j_iadd J dX0_drift_112 ?_
                refine j_iload J dX0_drift_113 (lv_at hl 0 rfl) ?_
                refine k_X0_driftOn (row := row) (x := x + (σ 0 4)) (mu := (τ 4 (row * σ 18 0 + x)) / 2) (σ := stlS (st τ 6 (row * σ 18 0 + x) (τ 6 (row * σ 18 0 + x) + (((τ 4 (row * σ 18 0 + x)) - ((τ 4 (row * σ 18 0 + x)) / 4)) - ((τ 4 (row * σ 18 0 + x)) / 2)))) (row * σ 18 0 + x) ((τ 4 (row * σ 18 0 + x)) / 4)) hD (show Dim (stlS (st τ 6 (row * σ 18 0 + x) (τ 6 (row * σ 18 0 + x) + (((τ 4 (row * σ 18 0 + x)) - ((τ 4 (row * σ 18 0 + x)) / 4)) - ((τ 4 (row * σ 18 0 + x)) / 2)))) (row * σ 18 0 + x) ((τ 4 (row * σ 18 0 + x)) / 4)) from hdt) (show 0 ≤ row ∧ row < τ 18 1 from by omega) (show -1 ≤ (x + (σ 0 4)) ∧ (x + (σ 0 4)) ≤ 12 from by omega) J hw hl.1 lk_X0_63 ⟨Nat.le_of_ble_eq_true rfl, Nat.le_of_ble_eq_true rfl⟩ (Nat.le_of_ble_eq_true rfl) dX0_drift_115 (fun H locs hw => ?_)
                refine j_iinc J (lv' := [(4, .int (I (x + 1))), (7, .int (I ((τ 4 (row * σ 18 0 + x)) / 2))), (6, .int (I ((τ 4 (row * σ 18 0 + x)) / 4))), (5, .int (I (row * σ 18 0 + x))), (3, .int (I row)), (0, .ref (ad 2)), (1, .ref (ad 1)), (2, .int (I (σ 0 4)))]) (k := 3) hl dX0_drift_118 rfl (by decide) rfl (fun ls hl => ?_)
                refine j_goto J 21 dX0_drift_121 (by decide) ?_
                exact ih21 (dnS (stlS (st τ 6 (row * σ 18 0 + x) (τ 6 (row * σ 18 0 + x) + (((τ 4 (row * σ 18 0 + x)) - ((τ 4 (row * σ 18 0 + x)) / 4)) - ((τ 4 (row * σ 18 0 + x)) / 2)))) (row * σ 18 0 + x) ((τ 4 (row * σ 18 0 + x)) / 4)) row (x + (σ 0 4)) ((τ 4 (row * σ 18 0 + x)) / 2)) (x + 1) (by omega) (by rw [show row * σ 18 0 + (x + 1) = row * σ 18 0 + x + 1 by omega]; exact dr_stepX hx0.1 (by omega) hi0.1 hQ (by unfold seS; rw [a4]) (by unfold mvS; first | exact (if_pos (by assumption)).symm | rw [if_neg (by assumption), a4])) (((hK.st (Or.inl (by decide))).stl).dn) (by omega) _ _ _ hw (lv_sub hl [0, 4, 5, 6, 7] rfl)
              · refine j_iconst J (0) dX0_drift_56 ?_
                refine j_goto J 71 dX0_drift_57 (by decide) ?_
                refine j_istore J (lv' := [(7, .int (I 0)), (6, .int (I ((τ 4 (row * σ 18 0 + x)) / 4))), (5, .int (I (row * σ 18 0 + x))), (4, .int (I x)), (3, .int (I row)), (0, .ref (ad 2)), (1, .ref (ad 1)), (2, .int (I (σ 0 4)))]) hl dX0_drift_71 (by decide) rfl (fun ls hl => ?_)
                refine j_aload_n J dX0_drift_73 rfl (lv_at hl 5 rfl) ?_
                refine xg_0_2 J hw lk_X0_23 dX0_drift_74 ?_
                refine j_iload J dX0_drift_77 (lv_at hl 2 rfl) ?_
                refine j_aload_n J dX0_drift_79 rfl (lv_at hl 5 rfl) ?_
                refine xg_0_0 J hw lk_X0_14 dX0_drift_80 ?_
                refine j_iload J dX0_drift_83 (lv_at hl 2 rfl) ?_
                refine k_X2_get (k := 4) (i := row * σ 18 0 + x) (σ := τ) hD (by decide) (show 0 ≤ row * σ 18 0 + x ∧ (row * σ 18 0 + x) < ((120 : Nat) : Int) from by omega) J hw hl.1 lk_X0_55 ⟨Nat.le_of_ble_eq_true rfl, Nat.le_of_ble_eq_true rfl⟩ (Nat.le_of_ble_eq_true rfl) dX0_drift_85 (fun H locs hw => ?_)
                refine j_iload J dX0_drift_88 (lv_at hl 1 rfl) ?_
                refine j_isub J dX0_drift_90 ?_
                refine j_iload J dX0_drift_91 (lv_at hl 0 rfl) ?_
                refine j_isub J dX0_drift_93 ?_
                refine k_X2_add (k := 6) (i := row * σ 18 0 + x) (v := ((τ 4 (row * σ 18 0 + x)) - ((τ 4 (row * σ 18 0 + x)) / 4)) - 0) (σ := τ) hD (by decide) (show 0 ≤ row * σ 18 0 + x ∧ (row * σ 18 0 + x) < ((120 : Nat) : Int) from by omega) J hw hl.1 lk_X0_39 ⟨Nat.le_of_ble_eq_true rfl, Nat.le_of_ble_eq_true rfl⟩ (Nat.le_of_ble_eq_true rfl) dX0_drift_94 (fun H locs hw => ?_)
                refine j_aload_n J dX0_drift_97 rfl (lv_at hl 5 rfl) ?_
                refine j_aload_n J dX0_drift_98 rfl (lv_at hl 6 rfl) ?_
                refine j_iload J dX0_drift_99 (lv_at hl 2 rfl) ?_
                refine j_iload J dX0_drift_101 (lv_at hl 1 rfl) ?_
                refine k_X0_settle (cell := row * σ 18 0 + x) (mu := (τ 4 (row * σ 18 0 + x)) / 4) (σ := st τ 6 (row * σ 18 0 + x) (τ 6 (row * σ 18 0 + x) + (((τ 4 (row * σ 18 0 + x)) - ((τ 4 (row * σ 18 0 + x)) / 4)) - 0))) hD (show 0 ≤ (row * σ 18 0 + x) ∧ (row * σ 18 0 + x) < 120 from by omega) (show 0 ≤ ((τ 4 (row * σ 18 0 + x)) / 4) ∧ ((τ 4 (row * σ 18 0 + x)) / 4) ≤ 900000 from by omega) (show 0 ≤ τ 5 (row * σ 18 0 + x) ∧ τ 5 (row * σ 18 0 + x) ≤ 3 from by omega) (show 0 ≤ τ 1 (row * σ 18 0 + x) ∧ τ 1 (row * σ 18 0 + x) ≤ 400 from by omega) J hw hl.1 lk_X0_59 ⟨Nat.le_of_ble_eq_true rfl, Nat.le_of_ble_eq_true rfl⟩ (Nat.le_of_ble_eq_true rfl) dX0_drift_103 (fun H locs hw => ?_)
                refine j_aload_n J dX0_drift_106 rfl (lv_at hl 5 rfl) ?_
                refine j_aload_n J dX0_drift_107 rfl (lv_at hl 6 rfl) ?_
                refine j_iload_n J dX0_drift_108 rfl (lv_at hl 4 rfl) ?_
                refine j_iload J dX0_drift_109 (lv_at hl 3 rfl) ?_
                refine j_iload_n J dX0_drift_111 rfl (lv_at hl 7 rfl) ?_
                refine j_iadd J dX0_drift_112 ?_
                refine j_iload J dX0_drift_113 (lv_at hl 0 rfl) ?_
                refine k_X0_driftOn (row := row) (x := x + (σ 0 4)) (mu := 0) (σ := stlS (st τ 6 (row * σ 18 0 + x) (τ 6 (row * σ 18 0 + x) + (((τ 4 (row * σ 18 0 + x)) - ((τ 4 (row * σ 18 0 + x)) / 4)) - 0))) (row * σ 18 0 + x) ((τ 4 (row * σ 18 0 + x)) / 4)) hD (show Dim (stlS (st τ 6 (row * σ 18 0 + x) (τ 6 (row * σ 18 0 + x) + (((τ 4 (row * σ 18 0 + x)) - ((τ 4 (row * σ 18 0 + x)) / 4)) - 0))) (row * σ 18 0 + x) ((τ 4 (row * σ 18 0 + x)) / 4)) from hdt) (show 0 ≤ row ∧ row < τ 18 1 from by omega) (show -1 ≤ (x + (σ 0 4)) ∧ (x + (σ 0 4)) ≤ 12 from by omega) J hw hl.1 lk_X0_63 ⟨Nat.le_of_ble_eq_true rfl, Nat.le_of_ble_eq_true rfl⟩ (Nat.le_of_ble_eq_true rfl) dX0_drift_115 (fun H locs hw => ?_)
                refine j_iinc J (lv' := [(4, .int (I (x + 1))), (7, .int (I 0)), (6, .int (I ((τ 4 (row * σ 18 0 + x)) / 4))), (5, .int (I (row * σ 18 0 + x))), (3, .int (I row)), (0, .ref (ad 2)), (1, .ref (ad 1)), (2, .int (I (σ 0 4)))]) (k := 3) hl dX0_drift_118 rfl (by decide) rfl (fun ls hl => ?_)
                refine j_goto J 21 dX0_drift_121 (by decide) ?_
                exact ih21 (dnS (stlS (st τ 6 (row * σ 18 0 + x) (τ 6 (row * σ 18 0 + x) + (((τ 4 (row * σ 18 0 + x)) - ((τ 4 (row * σ 18 0 + x)) / 4)) - 0))) (row * σ 18 0 + x) ((τ 4 (row * σ 18 0 + x)) / 4)) row (x + (σ 0 4)) 0) (x + 1) (by omega) (by rw [show row * σ 18 0 + (x + 1) = row * σ 18 0 + x + 1 by omega]; exact dr_stepX hx0.1 (by omega) hi0.1 hQ (by unfold seS; rw [a4]) (by unfold mvS; first | exact (if_pos (by assumption)).symm | rw [if_neg (by assumption), a4])) (((hK.st (Or.inl (by decide))).stl).dn) (by omega) _ _ _ hw (lv_sub hl [0, 4, 5, 6, 7] rfl)
        exact L21 _ τ 0 (by omega) (by rw [Int.add_zero]; exact hD0) (hK0) (Nat.lt_succ_self _) _ _ _ hw (lv_sub hl [0, 1, 2, 3, 4] rfl)
  exact L10 _ (fl σ 6 0 120) 0 (by omega) (by rw [Int.zero_mul]; exact dr_0 (Eqp.rf.fl (fun _ => npub6)) (fun j h0 hj => if_pos ⟨rfl, h0, by omega⟩)) (KS.fl (fun _ _ => rfl) (by decide)) (Nat.lt_succ_self _) _ _ _ hw (lv_sub hl [0, 1, 2, 3] rfl)
theorem k_X0_drift {p : Program} {l : Launch} {e : Env} {R : Room} {s : State} {m : MethodId} {args : Array Value} {below : List Frame} {meth : Method} {c : Code} {H : Heap} {locs : List Loc} {Q : State → Prop} {cc : ByteArray} {pc : Nat} {ls : Array Slot} {rest : List Value} {nL : Nat} {own : String} {D : va_G} {σ : St} {cI cZ : ClassId} {ad : Nat → Nat} {index : Nat}  (hD : ∀ τ, va_D (AD ad 45) (wsX cI ad τ)) (hB : Bd σ) (J : Jx p m c cc nL s args own D [(cI, .int), (cZ, .boolean)] (AD ad 45) (wsX cI ad)) (hw : jW D (AD ad 45) s.heap (wsX cI ad σ) H locs) (hsz : ls.size = nL) (hlk : Cond.methodLink own index yX0_drift ∈ TBw) (hR : 4 ≤ R.frames ∧ 96 ≤ R.locals) (hroom : (rest.map fun v => v.category).sum ≤ 8) (hdg : decode cc pc = .ok (.invokevirtual index, 3)) (kk : ∀ (τ : St) (H1 : Heap) (locs1 : List Loc), (fun τ => Eqp τ (drE σ) ∧ KS σ τ) τ → jW D (AD ad 45) s.heap (wsX cI ad τ) H1 locs1 → W p l e R s m args below meth c H1 locs1 0 0 Q (F0 m (pc + 3) ls rest)) : W p l e R s m args below meth c H locs 0 0 Q (F0 m pc ls (.int (I (σ 0 4)) :: .ref (ad 1) :: .ref (ad 2) :: rest)) := 
  j_callVv J hw (c_X0_drift  hD hB) hlk in_X0_drift se_X0_drift ini_X0 co_X0_drift (n := 2) (by decide +kernel) ⟨rfl, rfl, hR.1, hR.2⟩ (j := 2) (ci := 0) rfl rfl rfl rfl hroom hsz ⟨Nat.zero_le _, Nat.zero_le _⟩ rfl hdg kk
def rm_X1_gathersSilt : Room := { frames := 2, cells := 0, slots := 0, locals := 43 }
set_option maxHeartbeats 4000000 in
set_option maxRecDepth 100000 in
theorem c_X1_gathersSilt {l : Launch} {D : va_G} {cI cZ : ClassId} {ad : Nat → Nat} {σ : St} {row x : Int} (hD : ∀ τ, va_D (AD ad 45) (wsX cI ad τ)) (hB : Bd σ) (hr : 0 ≤ row ∧ row < σ 18 1) (hx : 0 ≤ x ∧ x < σ 18 0) : JMi l yX1_gathersSilt cX1_gathersSilt 7 (some .boolean) rm_X1_gathersSilt D [(cI, .int), (cZ, .boolean)] (AD ad 45) (wsX cI ad) [.ref (ad 1), .int (I row), .int (I x)] σ (fun r τ => r = (if gaS σ row x then 1 else 0) ∧ τ = σ) := by
  refine JMi.of RX1 (by decide +kernel) rfl (Nat.le_of_ble_eq_true rfl) hD ?_
  intro p e s m args below meth c Q J fin H ls hw hl
  generalize ([] : List Loc) = locs at hw ⊢
  have hl : lv_has ls 7 [(0, .ref (ad 1)), (1, .int (I row)), (2, .int (I x))] := hl
  have hd : Dim _ := hB.dim
  have hd1 := hd.1; have hd2 := hd.2.1; have hd3 := hd.2.2.1; have hd4 := hd.2.2.2; have hm := hd.mul
  have hci := cell_in hr.1 hr.2 hx.1 hx.2
  have bd0 := hB.depth (row * σ 18 0 + x); have bd1 := hB.design (row * σ 18 0 + x)
  refine j_aload_n J dX1_gathersSilt_0 rfl (lv_at hl 0 rfl) ?_
  refine j_iload_n J dX1_gathersSilt_1 rfl (lv_at hl 1 rfl) ?_
  refine j_iload_n J dX1_gathersSilt_2 rfl (lv_at hl 2 rfl) ?_
  refine k_X1_number (row := row) (col := x) (σ := σ) hD  J hw hl.1 lk_X1_60 ⟨Nat.le_of_ble_eq_true rfl, Nat.le_of_ble_eq_true rfl⟩ (Nat.le_of_ble_eq_true rfl) dX1_gathersSilt_3 (fun H locs hw => ?_)
  refine j_istore_n J (lv' := [(3, .int (I (row * σ 18 0 + x))), (0, .ref (ad 1)), (1, .int (I row)), (2, .int (I x))]) hl dX1_gathersSilt_6 rfl (by decide) rfl (fun ls hl => ?_)
  refine j_aload_n J dX1_gathersSilt_7 rfl (lv_at hl 1 rfl) ?_
  refine xg_1_1 J hw lk_X1_20 dX1_gathersSilt_8 ?_
  refine j_iload_n J dX1_gathersSilt_11 rfl (lv_at hl 0 rfl) ?_
  refine k_X2_get (k := 2) (i := row * σ 18 0 + x) (σ := σ) hD (by decide) (show 0 ≤ row * σ 18 0 + x ∧ (row * σ 18 0 + x) < ((120 : Nat) : Int) from by omega) J hw hl.1 lk_X1_47 ⟨Nat.le_of_ble_eq_true rfl, Nat.le_of_ble_eq_true rfl⟩ (Nat.le_of_ble_eq_true rfl) dX1_gathersSilt_12 (fun H locs hw => ?_)
  refine j_if_ne J 20 (show rg (σ 2 (row * σ 18 0 + x)) by unfold rg; omega) dX1_gathersSilt_15 (by decide) (fun (h_1 : ¬ (σ 2 (row * σ 18 0 + x)) = 0) => ?_) (fun (h_1 : (σ 2 (row * σ 18 0 + x)) = 0) => ?_)
  · refine j_iconst J (0) dX1_gathersSilt_20 ?_
    refine j_istore J (lv' := [(4, .int (I 0)), (3, .int (I (row * σ 18 0 + x))), (0, .ref (ad 1)), (1, .int (I row)), (2, .int (I x))]) hl dX1_gathersSilt_21 (by decide) rfl (fun ls hl => ?_)
    refine j_iconst J (0) dX1_gathersSilt_23 ?_
    refine j_istore J (lv' := [(5, .int (I 0)), (4, .int (I 0)), (3, .int (I (row * σ 18 0 + x))), (0, .ref (ad 1)), (1, .int (I row)), (2, .int (I x))]) hl dX1_gathersSilt_24 (by decide) rfl (fun ls hl => ?_)
    refine j_iconst J (-1) dX1_gathersSilt_26 ?_
    refine j_istore J (lv' := [(6, .int (I (-1))), (5, .int (I 0)), (4, .int (I 0)), (3, .int (I (row * σ 18 0 + x))), (0, .ref (ad 1)), (1, .int (I row)), (2, .int (I x))]) hl dX1_gathersSilt_27 (by decide) rfl (fun ls hl => ?_)
    refine j_iload J dX1_gathersSilt_29 (lv_at hl 0 rfl) ?_
    refine j_iconst J (1) dX1_gathersSilt_31 ?_
    refine j_icmp_gt J 111 (by unfold rg; omega) (by unfold rg; omega) dX1_gathersSilt_32 (by decide) (fun (h_2 : 1 < (-1)) => absurd h_2 (by omega)) (fun (h_2 : (-1) ≤ 1) => ?_)
    refine j_aload_n J dX1_gathersSilt_35 rfl (lv_at hl 4 rfl) ?_
    refine j_iload_n J dX1_gathersSilt_36 rfl (lv_at hl 5 rfl) ?_
    refine j_iload J dX1_gathersSilt_37 (lv_at hl 0 rfl) ?_
    refine j_iadd J dX1_gathersSilt_39 ?_
    refine k_X1_hasRow (row := row + (-1)) (σ := σ) hD (show Dim σ from hd) (show rg (row + (-1)) from by unfold rg; omega) J hw hl.1 lk_X1_71 ⟨Nat.le_of_ble_eq_true rfl, Nat.le_of_ble_eq_true rfl⟩ (Nat.le_of_ble_eq_true rfl) dX1_gathersSilt_40 (fun H locs hw => ?_)
    refine j_ifeqB J 70 dX1_gathersSilt_43 (by decide) (fun (h_3 : ¬ (0 ≤ (row + (-1)) ∧ (row + (-1)) ≤ σ 18 1 - 1)) => ?_) (fun (h_3 : 0 ≤ (row + (-1)) ∧ (row + (-1)) ≤ σ 18 1 - 1) => ?_)
    · refine j_aload_n J dX1_gathersSilt_70 rfl (lv_at hl 4 rfl) ?_
      refine j_iload_n J dX1_gathersSilt_71 rfl (lv_at hl 6 rfl) ?_
      refine j_iload J dX1_gathersSilt_72 (lv_at hl 0 rfl) ?_
      refine j_iadd J dX1_gathersSilt_74 ?_
      refine k_X1_hasColumn (col := x + (-1)) (σ := σ) hD (show Dim σ from hd) (show rg (x + (-1)) from by unfold rg; omega) J hw hl.1 lk_X1_75 ⟨Nat.le_of_ble_eq_true rfl, Nat.le_of_ble_eq_true rfl⟩ (Nat.le_of_ble_eq_true rfl) dX1_gathersSilt_75 (fun H locs hw => ?_)
      refine j_ifeqB J 105 dX1_gathersSilt_78 (by decide) (fun (h_4 : ¬ (0 ≤ (x + (-1)) ∧ (x + (-1)) ≤ σ 18 0 - 1)) => ?_) (fun (h_4 : 0 ≤ (x + (-1)) ∧ (x + (-1)) ≤ σ 18 0 - 1) => ?_)
      · refine j_iinc J (lv' := [(6, .int (I 1)), (5, .int (I 0)), (4, .int (I 0)), (3, .int (I (row * σ 18 0 + x))), (0, .ref (ad 1)), (1, .int (I row)), (2, .int (I x))]) (k := 0) hl dX1_gathersSilt_105 rfl (by decide) rfl (fun ls hl => ?_)
        refine j_goto J 29 dX1_gathersSilt_108 (by decide) ?_
        refine j_iload J dX1_gathersSilt_29 (lv_at hl 0 rfl) ?_
        refine j_iconst J (1) dX1_gathersSilt_31 ?_
        refine j_icmp_gt J 111 (by unfold rg; omega) (by unfold rg; omega) dX1_gathersSilt_32 (by decide) (fun (h_5 : 1 < 1) => absurd h_5 (by omega)) (fun (h_5 : 1 ≤ 1) => ?_)
        refine j_aload_n J dX1_gathersSilt_35 rfl (lv_at hl 4 rfl) ?_
        refine j_iload_n J dX1_gathersSilt_36 rfl (lv_at hl 5 rfl) ?_
        refine j_iload J dX1_gathersSilt_37 (lv_at hl 0 rfl) ?_
        refine j_iadd J dX1_gathersSilt_39 ?_
        refine k_X1_hasRow (row := row + 1) (σ := σ) hD (show Dim σ from hd) (show rg (row + 1) from by unfold rg; omega) J hw hl.1 lk_X1_71 ⟨Nat.le_of_ble_eq_true rfl, Nat.le_of_ble_eq_true rfl⟩ (Nat.le_of_ble_eq_true rfl) dX1_gathersSilt_40 (fun H locs hw => ?_)
        refine j_ifeqB J 70 dX1_gathersSilt_43 (by decide) (fun (h_6 : ¬ (0 ≤ (row + 1) ∧ (row + 1) ≤ σ 18 1 - 1)) => ?_) (fun (h_6 : 0 ≤ (row + 1) ∧ (row + 1) ≤ σ 18 1 - 1) => ?_)
        · refine j_aload_n J dX1_gathersSilt_70 rfl (lv_at hl 4 rfl) ?_
          refine j_iload_n J dX1_gathersSilt_71 rfl (lv_at hl 6 rfl) ?_
          refine j_iload J dX1_gathersSilt_72 (lv_at hl 0 rfl) ?_
          refine j_iadd J dX1_gathersSilt_74 ?_
          refine k_X1_hasColumn (col := x + 1) (σ := σ) hD (show Dim σ from hd) (show rg (x + 1) from by unfold rg; omega) J hw hl.1 lk_X1_75 ⟨Nat.le_of_ble_eq_true rfl, Nat.le_of_ble_eq_true rfl⟩ (Nat.le_of_ble_eq_true rfl) dX1_gathersSilt_75 (fun H locs hw => ?_)
          refine j_ifeqB J 105 dX1_gathersSilt_78 (by decide) (fun (h_7 : ¬ (0 ≤ (x + 1) ∧ (x + 1) ≤ σ 18 0 - 1)) => ?_) (fun (h_7 : 0 ≤ (x + 1) ∧ (x + 1) ≤ σ 18 0 - 1) => ?_)
          · refine j_iinc J (lv' := [(6, .int (I 3)), (5, .int (I 0)), (4, .int (I 0)), (3, .int (I (row * σ 18 0 + x))), (0, .ref (ad 1)), (1, .int (I row)), (2, .int (I x))]) (k := 0) hl dX1_gathersSilt_105 rfl (by decide) rfl (fun ls hl => ?_)
            refine j_goto J 29 dX1_gathersSilt_108 (by decide) ?_
            refine j_iload J dX1_gathersSilt_29 (lv_at hl 0 rfl) ?_
            refine j_iconst J (1) dX1_gathersSilt_31 ?_
            refine j_icmp_gt J 111 (by unfold rg; omega) (by unfold rg; omega) dX1_gathersSilt_32 (by decide) (fun (h_8 : 1 < 3) => ?_) (fun (h_8 : 3 ≤ 1) => absurd h_8 (by omega))
            refine j_iload J dX1_gathersSilt_111 (lv_at hl 1 rfl) ?_
            refine j_if_le J 136 (by unfold rg; omega) dX1_gathersSilt_113 (by decide) (fun (h_9 : 0 ≤ 0) => ?_) (fun (h_9 : 0 < 0) => absurd h_9 (by omega))
            refine j_iconst J (0) dX1_gathersSilt_136 ?_
            exact fin _ _ _ _ _ _ dX1_gathersSilt_137 rfl (⟨by first | exact ga_yes (a := 0) (b := 0) (by unfold smS; (repeat' split) <;> omega) (by unfold nbS; (repeat' split) <;> omega) (by assumption) (by omega) (by assumption) | exact ga_no (a := 0) (b := 0) (by unfold smS; (repeat' split) <;> omega) (by unfold nbS; (repeat' split) <;> omega) (by first | exact Or.inl (by omega) | exact Or.inr (by assumption)), rfl⟩) hw
          · refine j_iload J dX1_gathersSilt_81 (lv_at hl 2 rfl) ?_
            refine j_aload_n J dX1_gathersSilt_83 rfl (lv_at hl 4 rfl) ?_
            refine xg_1_0 J hw lk_X1_14 dX1_gathersSilt_84 ?_
            refine j_aload_n J dX1_gathersSilt_87 rfl (lv_at hl 4 rfl) ?_
            refine j_iload_n J dX1_gathersSilt_88 rfl (lv_at hl 5 rfl) ?_
            refine j_iload_n J dX1_gathersSilt_89 rfl (lv_at hl 6 rfl) ?_
            refine j_iload J dX1_gathersSilt_90 (lv_at hl 0 rfl) ?_
            refine j_iadd J dX1_gathersSilt_92 ?_
            refine k_X1_number (row := row) (col := x + 1) (σ := σ) hD  J hw hl.1 lk_X1_60 ⟨Nat.le_of_ble_eq_true rfl, Nat.le_of_ble_eq_true rfl⟩ (Nat.le_of_ble_eq_true rfl) dX1_gathersSilt_93 (fun H locs hw => ?_)
            have hcB := cell_in (r := row) (x := x + 1) (C := σ 18 0) (R := σ 18 1) hr.1 hr.2 (by omega) (by omega)
            refine k_X2_get (k := 1) (i := row * σ 18 0 + (x + 1)) (σ := σ) hD (by decide) (show 0 ≤ row * σ 18 0 + (x + 1) ∧ (row * σ 18 0 + (x + 1)) < ((120 : Nat) : Int) from by omega) J hw hl.1 lk_X1_47 ⟨Nat.le_of_ble_eq_true rfl, Nat.le_of_ble_eq_true rfl⟩ (Nat.le_of_ble_eq_true rfl) dX1_gathersSilt_96 (fun H locs hw => ?_)
            have bdB := hB.depth (row * σ 18 0 + (x + 1))
            refine j_iadd J dX1_gathersSilt_99 ?_
            refine j_istore J (lv' := [(4, .int (I (0 + (σ 1 (row * σ 18 0 + (x + 1)))))), (6, .int (I 1)), (5, .int (I 0)), (3, .int (I (row * σ 18 0 + x))), (0, .ref (ad 1)), (1, .int (I row)), (2, .int (I x))]) hl dX1_gathersSilt_100 (by decide) rfl (fun ls hl => ?_)
            refine j_iinc J (lv' := [(5, .int (I 1)), (4, .int (I (0 + (σ 1 (row * σ 18 0 + (x + 1)))))), (6, .int (I 1)), (3, .int (I (row * σ 18 0 + x))), (0, .ref (ad 1)), (1, .int (I row)), (2, .int (I x))]) (k := 2) hl dX1_gathersSilt_102 rfl (by decide) rfl (fun ls hl => ?_)
            refine j_iinc J (lv' := [(6, .int (I 3)), (5, .int (I 1)), (4, .int (I (0 + (σ 1 (row * σ 18 0 + (x + 1)))))), (3, .int (I (row * σ 18 0 + x))), (0, .ref (ad 1)), (1, .int (I row)), (2, .int (I x))]) (k := 2) hl dX1_gathersSilt_105 rfl (by decide) rfl (fun ls hl => ?_)
            refine j_goto J 29 dX1_gathersSilt_108 (by decide) ?_
            refine j_iload J dX1_gathersSilt_29 (lv_at hl 0 rfl) ?_
            refine j_iconst J (1) dX1_gathersSilt_31 ?_
            refine j_icmp_gt J 111 (by unfold rg; omega) (by unfold rg; omega) dX1_gathersSilt_32 (by decide) (fun (h_10 : 1 < 3) => ?_) (fun (h_10 : 3 ≤ 1) => absurd h_10 (by omega))
            refine j_iload J dX1_gathersSilt_111 (lv_at hl 1 rfl) ?_
            refine j_if_le J 136 (by unfold rg; omega) dX1_gathersSilt_113 (by decide) (fun (h_11 : 1 ≤ 0) => absurd h_11 (by omega)) (fun (h_11 : 0 < 1) => ?_)
            refine j_aload_n J dX1_gathersSilt_116 rfl (lv_at hl 4 rfl) ?_
            refine xg_1_0 J hw lk_X1_14 dX1_gathersSilt_117 ?_
            refine j_iload_n J dX1_gathersSilt_120 rfl (lv_at hl 3 rfl) ?_
            refine k_X2_get (k := 1) (i := row * σ 18 0 + x) (σ := σ) hD (by decide) (show 0 ≤ row * σ 18 0 + x ∧ (row * σ 18 0 + x) < ((120 : Nat) : Int) from by omega) J hw hl.1 lk_X1_47 ⟨Nat.le_of_ble_eq_true rfl, Nat.le_of_ble_eq_true rfl⟩ (Nat.le_of_ble_eq_true rfl) dX1_gathersSilt_121 (fun H locs hw => ?_)
            refine j_iload J dX1_gathersSilt_124 (lv_at hl 2 rfl) ?_
            refine j_iload J dX1_gathersSilt_126 (lv_at hl 1 rfl) ?_
            refine j_idiv J (show 0 ≤ 0 + (σ 1 (row * σ 18 0 + (x + 1))) ∧ (0 + (σ 1 (row * σ 18 0 + (x + 1)))) < 2147483648 ∧ 0 < 1 ∧ 1 < 2147483648 from by omega) dX1_gathersSilt_128 ?_
            refine j_icmp_le J 136 (show rg (σ 1 (row * σ 18 0 + x)) by unfold rg; omega) (show rg ((0 + (σ 1 (row * σ 18 0 + (x + 1)))) / 1) by unfold rg; omega) dX1_gathersSilt_129 (by decide) (fun (h_12 : (σ 1 (row * σ 18 0 + x)) ≤ ((0 + (σ 1 (row * σ 18 0 + (x + 1)))) / 1)) => ?_) (fun (h_12 : ((0 + (σ 1 (row * σ 18 0 + (x + 1)))) / 1) < (σ 1 (row * σ 18 0 + x))) => ?_)
            · refine j_iconst J (0) dX1_gathersSilt_136 ?_
              exact fin _ _ _ _ _ _ dX1_gathersSilt_137 rfl (⟨by first | exact ga_yes (a := (0 + (σ 1 (row * σ 18 0 + (x + 1))))) (b := 1) (by unfold smS; (repeat' split) <;> omega) (by unfold nbS; (repeat' split) <;> omega) (by assumption) (by omega) (by assumption) | exact ga_no (a := (0 + (σ 1 (row * σ 18 0 + (x + 1))))) (b := 1) (by unfold smS; (repeat' split) <;> omega) (by unfold nbS; (repeat' split) <;> omega) (by first | exact Or.inl (by omega) | exact Or.inr (by assumption)), rfl⟩) hw
            · refine j_iconst J (1) dX1_gathersSilt_132 ?_
              refine j_goto J 137 dX1_gathersSilt_133 (by decide) ?_
              exact fin _ _ _ _ _ _ dX1_gathersSilt_137 rfl (⟨by first | exact ga_yes (a := (0 + (σ 1 (row * σ 18 0 + (x + 1))))) (b := 1) (by unfold smS; (repeat' split) <;> omega) (by unfold nbS; (repeat' split) <;> omega) (by assumption) (by omega) (by assumption) | exact ga_no (a := (0 + (σ 1 (row * σ 18 0 + (x + 1))))) (b := 1) (by unfold smS; (repeat' split) <;> omega) (by unfold nbS; (repeat' split) <;> omega) (by first | exact Or.inl (by omega) | exact Or.inr (by assumption)), rfl⟩) hw
        · refine j_iload J dX1_gathersSilt_46 (lv_at hl 2 rfl) ?_
          refine j_aload_n J dX1_gathersSilt_48 rfl (lv_at hl 4 rfl) ?_
          refine xg_1_0 J hw lk_X1_14 dX1_gathersSilt_49 ?_
          refine j_aload_n J dX1_gathersSilt_52 rfl (lv_at hl 4 rfl) ?_
          refine j_iload_n J dX1_gathersSilt_53 rfl (lv_at hl 5 rfl) ?_
          refine j_iload J dX1_gathersSilt_54 (lv_at hl 0 rfl) ?_
          refine j_iadd J dX1_gathersSilt_56 ?_
          refine j_iload_n J dX1_gathersSilt_57 rfl (lv_at hl 6 rfl) ?_
          refine k_X1_number (row := row + 1) (col := x) (σ := σ) hD  J hw hl.1 lk_X1_60 ⟨Nat.le_of_ble_eq_true rfl, Nat.le_of_ble_eq_true rfl⟩ (Nat.le_of_ble_eq_true rfl) dX1_gathersSilt_58 (fun H locs hw => ?_)
          have hcA := cell_in (r := row + 1) (x := x) (C := σ 18 0) (R := σ 18 1) (by omega) (by omega) hx.1 hx.2
          refine k_X2_get (k := 1) (i := (row + 1) * σ 18 0 + x) (σ := σ) hD (by decide) (show 0 ≤ (row + 1) * σ 18 0 + x ∧ ((row + 1) * σ 18 0 + x) < ((120 : Nat) : Int) from by omega) J hw hl.1 lk_X1_47 ⟨Nat.le_of_ble_eq_true rfl, Nat.le_of_ble_eq_true rfl⟩ (Nat.le_of_ble_eq_true rfl) dX1_gathersSilt_61 (fun H locs hw => ?_)
          have bdA := hB.depth ((row + 1) * σ 18 0 + x)
          refine j_iadd J dX1_gathersSilt_64 ?_
          refine j_istore J (lv' := [(4, .int (I (0 + (σ 1 ((row + 1) * σ 18 0 + x))))), (6, .int (I 1)), (5, .int (I 0)), (3, .int (I (row * σ 18 0 + x))), (0, .ref (ad 1)), (1, .int (I row)), (2, .int (I x))]) hl dX1_gathersSilt_65 (by decide) rfl (fun ls hl => ?_)
          refine j_iinc J (lv' := [(5, .int (I 1)), (4, .int (I (0 + (σ 1 ((row + 1) * σ 18 0 + x))))), (6, .int (I 1)), (3, .int (I (row * σ 18 0 + x))), (0, .ref (ad 1)), (1, .int (I row)), (2, .int (I x))]) (k := 2) hl dX1_gathersSilt_67 rfl (by decide) rfl (fun ls hl => ?_)
          refine j_aload_n J dX1_gathersSilt_70 rfl (lv_at hl 4 rfl) ?_
          refine j_iload_n J dX1_gathersSilt_71 rfl (lv_at hl 6 rfl) ?_
          refine j_iload J dX1_gathersSilt_72 (lv_at hl 2 rfl) ?_
          refine j_iadd J dX1_gathersSilt_74 ?_
          refine k_X1_hasColumn (col := x + 1) (σ := σ) hD (show Dim σ from hd) (show rg (x + 1) from by unfold rg; omega) J hw hl.1 lk_X1_75 ⟨Nat.le_of_ble_eq_true rfl, Nat.le_of_ble_eq_true rfl⟩ (Nat.le_of_ble_eq_true rfl) dX1_gathersSilt_75 (fun H locs hw => ?_)
          refine j_ifeqB J 105 dX1_gathersSilt_78 (by decide) (fun (h_13 : ¬ (0 ≤ (x + 1) ∧ (x + 1) ≤ σ 18 0 - 1)) => ?_) (fun (h_13 : 0 ≤ (x + 1) ∧ (x + 1) ≤ σ 18 0 - 1) => ?_)
          · refine j_iinc J (lv' := [(6, .int (I 3)), (5, .int (I 1)), (4, .int (I (0 + (σ 1 ((row + 1) * σ 18 0 + x))))), (3, .int (I (row * σ 18 0 + x))), (0, .ref (ad 1)), (1, .int (I row)), (2, .int (I x))]) (k := 2) hl dX1_gathersSilt_105 rfl (by decide) rfl (fun ls hl => ?_)
            refine j_goto J 29 dX1_gathersSilt_108 (by decide) ?_
            refine j_iload J dX1_gathersSilt_29 (lv_at hl 0 rfl) ?_
            refine j_iconst J (1) dX1_gathersSilt_31 ?_
            refine j_icmp_gt J 111 (by unfold rg; omega) (by unfold rg; omega) dX1_gathersSilt_32 (by decide) (fun (h_14 : 1 < 3) => ?_) (fun (h_14 : 3 ≤ 1) => absurd h_14 (by omega))
            refine j_iload J dX1_gathersSilt_111 (lv_at hl 1 rfl) ?_
            refine j_if_le J 136 (by unfold rg; omega) dX1_gathersSilt_113 (by decide) (fun (h_15 : 1 ≤ 0) => absurd h_15 (by omega)) (fun (h_15 : 0 < 1) => ?_)
            refine j_aload_n J dX1_gathersSilt_116 rfl (lv_at hl 4 rfl) ?_
            refine xg_1_0 J hw lk_X1_14 dX1_gathersSilt_117 ?_
            refine j_iload_n J dX1_gathersSilt_120 rfl (lv_at hl 3 rfl) ?_
            refine k_X2_get (k := 1) (i := row * σ 18 0 + x) (σ := σ) hD (by decide) (show 0 ≤ row * σ 18 0 + x ∧ (row * σ 18 0 + x) < ((120 : Nat) : Int) from by omega) J hw hl.1 lk_X1_47 ⟨Nat.le_of_ble_eq_true rfl, Nat.le_of_ble_eq_true rfl⟩ (Nat.le_of_ble_eq_true rfl) dX1_gathersSilt_121 (fun H locs hw => ?_)
            refine j_iload J dX1_gathersSilt_124 (lv_at hl 2 rfl) ?_
            refine j_iload J dX1_gathersSilt_126 (lv_at hl 1 rfl) ?_
            refine j_idiv J (show 0 ≤ 0 + (σ 1 ((row + 1) * σ 18 0 + x)) ∧ (0 + (σ 1 ((row + 1) * σ 18 0 + x))) < 2147483648 ∧ 0 < 1 ∧ 1 < 2147483648 from by omega) dX1_gathersSilt_128 ?_
            refine j_icmp_le J 136 (show rg (σ 1 (row * σ 18 0 + x)) by unfold rg; omega) (show rg ((0 + (σ 1 ((row + 1) * σ 18 0 + x))) / 1) by unfold rg; omega) dX1_gathersSilt_129 (by decide) (fun (h_16 : (σ 1 (row * σ 18 0 + x)) ≤ ((0 + (σ 1 ((row + 1) * σ 18 0 + x))) / 1)) => ?_) (fun (h_16 : ((0 + (σ 1 ((row + 1) * σ 18 0 + x))) / 1) < (σ 1 (row * σ 18 0 + x))) => ?_)
            · refine j_iconst J (0) dX1_gathersSilt_136 ?_
              exact fin _ _ _ _ _ _ dX1_gathersSilt_137 rfl (⟨by first | exact ga_yes (a := (0 + (σ 1 ((row + 1) * σ 18 0 + x)))) (b := 1) (by unfold smS; (repeat' split) <;> omega) (by unfold nbS; (repeat' split) <;> omega) (by assumption) (by omega) (by assumption) | exact ga_no (a := (0 + (σ 1 ((row + 1) * σ 18 0 + x)))) (b := 1) (by unfold smS; (repeat' split) <;> omega) (by unfold nbS; (repeat' split) <;> omega) (by first | exact Or.inl (by omega) | exact Or.inr (by assumption)), rfl⟩) hw
            · refine j_iconst J (1) dX1_gathersSilt_132 ?_
              refine j_goto J 137 dX1_gathersSilt_133 (by decide) ?_
              exact fin _ _ _ _ _ _ dX1_gathersSilt_137 rfl (⟨by first | exact ga_yes (a := (0 + (σ 1 ((row + 1) * σ 18 0 + x)))) (b := 1) (by unfold smS; (repeat' split) <;> omega) (by unfold nbS; (repeat' split) <;> omega) (by assumption) (by omega) (by assumption) | exact ga_no (a := (0 + (σ 1 ((row + 1) * σ 18 0 + x)))) (b := 1) (by unfold smS; (repeat' split) <;> omega) (by unfold nbS; (repeat' split) <;> omega) (by first | exact Or.inl (by omega) | exact Or.inr (by assumption)), rfl⟩) hw
          · refine j_iload J dX1_gathersSilt_81 (lv_at hl 1 rfl) ?_
            refine j_aload_n J dX1_gathersSilt_83 rfl (lv_at hl 4 rfl) ?_
            refine xg_1_0 J hw lk_X1_14 dX1_gathersSilt_84 ?_
            refine j_aload_n J dX1_gathersSilt_87 rfl (lv_at hl 4 rfl) ?_
            refine j_iload_n J dX1_gathersSilt_88 rfl (lv_at hl 5 rfl) ?_
            refine j_iload_n J dX1_gathersSilt_89 rfl (lv_at hl 6 rfl) ?_
            refine j_iload J dX1_gathersSilt_90 (lv_at hl 2 rfl) ?_
            refine j_iadd J dX1_gathersSilt_92 ?_
            refine k_X1_number (row := row) (col := x + 1) (σ := σ) hD  J hw hl.1 lk_X1_60 ⟨Nat.le_of_ble_eq_true rfl, Nat.le_of_ble_eq_true rfl⟩ (Nat.le_of_ble_eq_true rfl) dX1_gathersSilt_93 (fun H locs hw => ?_)
            have hcB := cell_in (r := row) (x := x + 1) (C := σ 18 0) (R := σ 18 1) hr.1 hr.2 (by omega) (by omega)
            refine k_X2_get (k := 1) (i := row * σ 18 0 + (x + 1)) (σ := σ) hD (by decide) (show 0 ≤ row * σ 18 0 + (x + 1) ∧ (row * σ 18 0 + (x + 1)) < ((120 : Nat) : Int) from by omega) J hw hl.1 lk_X1_47 ⟨Nat.le_of_ble_eq_true rfl, Nat.le_of_ble_eq_true rfl⟩ (Nat.le_of_ble_eq_true rfl) dX1_gathersSilt_96 (fun H locs hw => ?_)
            have bdB := hB.depth (row * σ 18 0 + (x + 1))
            refine j_iadd J dX1_gathersSilt_99 ?_
            refine j_istore J (lv' := [(4, .int (I ((0 + (σ 1 ((row + 1) * σ 18 0 + x))) + (σ 1 (row * σ 18 0 + (x + 1)))))), (5, .int (I 1)), (6, .int (I 1)), (3, .int (I (row * σ 18 0 + x))), (0, .ref (ad 1)), (1, .int (I row)), (2, .int (I x))]) hl dX1_gathersSilt_100 (by decide) rfl (fun ls hl => ?_)
            refine j_iinc J (lv' := [(5, .int (I 2)), (4, .int (I ((0 + (σ 1 ((row + 1) * σ 18 0 + x))) + (σ 1 (row * σ 18 0 + (x + 1)))))), (6, .int (I 1)), (3, .int (I (row * σ 18 0 + x))), (0, .ref (ad 1)), (1, .int (I row)), (2, .int (I x))]) (k := 1) hl dX1_gathersSilt_102 rfl (by decide) rfl (fun ls hl => ?_)
            refine j_iinc J (lv' := [(6, .int (I 3)), (5, .int (I 2)), (4, .int (I ((0 + (σ 1 ((row + 1) * σ 18 0 + x))) + (σ 1 (row * σ 18 0 + (x + 1)))))), (3, .int (I (row * σ 18 0 + x))), (0, .ref (ad 1)), (1, .int (I row)), (2, .int (I x))]) (k := 2) hl dX1_gathersSilt_105 rfl (by decide) rfl (fun ls hl => ?_)
            refine j_goto J 29 dX1_gathersSilt_108 (by decide) ?_
            refine j_iload J dX1_gathersSilt_29 (lv_at hl 0 rfl) ?_
            refine j_iconst J (1) dX1_gathersSilt_31 ?_
            refine j_icmp_gt J 111 (by unfold rg; omega) (by unfold rg; omega) dX1_gathersSilt_32 (by decide) (fun (h_17 : 1 < 3) => ?_) (fun (h_17 : 3 ≤ 1) => absurd h_17 (by omega))
            refine j_iload J dX1_gathersSilt_111 (lv_at hl 1 rfl) ?_
            refine j_if_le J 136 (by unfold rg; omega) dX1_gathersSilt_113 (by decide) (fun (h_18 : 2 ≤ 0) => absurd h_18 (by omega)) (fun (h_18 : 0 < 2) => ?_)
            refine j_aload_n J dX1_gathersSilt_116 rfl (lv_at hl 4 rfl) ?_
            refine xg_1_0 J hw lk_X1_14 dX1_gathersSilt_117 ?_
            refine j_iload_n J dX1_gathersSilt_120 rfl (lv_at hl 3 rfl) ?_
            refine k_X2_get (k := 1) (i := row * σ 18 0 + x) (σ := σ) hD (by decide) (show 0 ≤ row * σ 18 0 + x ∧ (row * σ 18 0 + x) < ((120 : Nat) : Int) from by omega) J hw hl.1 lk_X1_47 ⟨Nat.le_of_ble_eq_true rfl, Nat.le_of_ble_eq_true rfl⟩ (Nat.le_of_ble_eq_true rfl) dX1_gathersSilt_121 (fun H locs hw => ?_)
            refine j_iload J dX1_gathersSilt_124 (lv_at hl 2 rfl) ?_
            refine j_iload J dX1_gathersSilt_126 (lv_at hl 1 rfl) ?_
            refine j_idiv J (show 0 ≤ (0 + (σ 1 ((row + 1) * σ 18 0 + x))) + (σ 1 (row * σ 18 0 + (x + 1))) ∧ ((0 + (σ 1 ((row + 1) * σ 18 0 + x))) + (σ 1 (row * σ 18 0 + (x + 1)))) < 2147483648 ∧ 0 < 2 ∧ 2 < 2147483648 from by omega) dX1_gathersSilt_128 ?_
            refine j_icmp_le J 136 (show rg (σ 1 (row * σ 18 0 + x)) by unfold rg; omega) (show rg (((0 + (σ 1 ((row + 1) * σ 18 0 + x))) + (σ 1 (row * σ 18 0 + (x + 1)))) / 2) by unfold rg; omega) dX1_gathersSilt_129 (by decide) (fun (h_19 : (σ 1 (row * σ 18 0 + x)) ≤ (((0 + (σ 1 ((row + 1) * σ 18 0 + x))) + (σ 1 (row * σ 18 0 + (x + 1)))) / 2)) => ?_) (fun (h_19 : (((0 + (σ 1 ((row + 1) * σ 18 0 + x))) + (σ 1 (row * σ 18 0 + (x + 1)))) / 2) < (σ 1 (row * σ 18 0 + x))) => ?_)
            · refine j_iconst J (0) dX1_gathersSilt_136 ?_
              exact fin _ _ _ _ _ _ dX1_gathersSilt_137 rfl (⟨by first | exact ga_yes (a := ((0 + (σ 1 ((row + 1) * σ 18 0 + x))) + (σ 1 (row * σ 18 0 + (x + 1))))) (b := 2) (by unfold smS; (repeat' split) <;> omega) (by unfold nbS; (repeat' split) <;> omega) (by assumption) (by omega) (by assumption) | exact ga_no (a := ((0 + (σ 1 ((row + 1) * σ 18 0 + x))) + (σ 1 (row * σ 18 0 + (x + 1))))) (b := 2) (by unfold smS; (repeat' split) <;> omega) (by unfold nbS; (repeat' split) <;> omega) (by first | exact Or.inl (by omega) | exact Or.inr (by assumption)), rfl⟩) hw
            · refine j_iconst J (1) dX1_gathersSilt_132 ?_
              refine j_goto J 137 dX1_gathersSilt_133 (by decide) ?_
              exact fin _ _ _ _ _ _ dX1_gathersSilt_137 rfl (⟨by first | exact ga_yes (a := ((0 + (σ 1 ((row + 1) * σ 18 0 + x))) + (σ 1 (row * σ 18 0 + (x + 1))))) (b := 2) (by unfold smS; (repeat' split) <;> omega) (by unfold nbS; (repeat' split) <;> omega) (by assumption) (by omega) (by assumption) | exact ga_no (a := ((0 + (σ 1 ((row + 1) * σ 18 0 + x))) + (σ 1 (row * σ 18 0 + (x + 1))))) (b := 2) (by unfold smS; (repeat' split) <;> omega) (by unfold nbS; (repeat' split) <;> omega) (by first | exact Or.inl (by omega) | exact Or.inr (by assumption)), rfl⟩) hw
      · refine j_iload J dX1_gathersSilt_81 (lv_at hl 2 rfl) ?_
        refine j_aload_n J dX1_gathersSilt_83 rfl (lv_at hl 4 rfl) ?_
        refine xg_1_0 J hw lk_X1_14 dX1_gathersSilt_84 ?_
        refine j_aload_n J dX1_gathersSilt_87 rfl (lv_at hl 4 rfl) ?_
        refine j_iload_n J dX1_gathersSilt_88 rfl (lv_at hl 5 rfl) ?_
        refine j_iload_n J dX1_gathersSilt_89 rfl (lv_at hl 6 rfl) ?_
        refine j_iload J dX1_gathersSilt_90 (lv_at hl 0 rfl) ?_
        refine j_iadd J dX1_gathersSilt_92 ?_
        refine k_X1_number (row := row) (col := x + (-1)) (σ := σ) hD  J hw hl.1 lk_X1_60 ⟨Nat.le_of_ble_eq_true rfl, Nat.le_of_ble_eq_true rfl⟩ (Nat.le_of_ble_eq_true rfl) dX1_gathersSilt_93 (fun H locs hw => ?_)
        have hcB := cell_in (r := row) (x := x + (-1)) (C := σ 18 0) (R := σ 18 1) hr.1 hr.2 (by omega) (by omega)
        refine k_X2_get (k := 1) (i := row * σ 18 0 + (x + (-1))) (σ := σ) hD (by decide) (show 0 ≤ row * σ 18 0 + (x + (-1)) ∧ (row * σ 18 0 + (x + (-1))) < ((120 : Nat) : Int) from by omega) J hw hl.1 lk_X1_47 ⟨Nat.le_of_ble_eq_true rfl, Nat.le_of_ble_eq_true rfl⟩ (Nat.le_of_ble_eq_true rfl) dX1_gathersSilt_96 (fun H locs hw => ?_)
        have bdB := hB.depth (row * σ 18 0 + (x + (-1)))
        refine j_iadd J dX1_gathersSilt_99 ?_
        refine j_istore J (lv' := [(4, .int (I (0 + (σ 1 (row * σ 18 0 + (x + (-1))))))), (6, .int (I (-1))), (5, .int (I 0)), (3, .int (I (row * σ 18 0 + x))), (0, .ref (ad 1)), (1, .int (I row)), (2, .int (I x))]) hl dX1_gathersSilt_100 (by decide) rfl (fun ls hl => ?_)
        refine j_iinc J (lv' := [(5, .int (I 1)), (4, .int (I (0 + (σ 1 (row * σ 18 0 + (x + (-1))))))), (6, .int (I (-1))), (3, .int (I (row * σ 18 0 + x))), (0, .ref (ad 1)), (1, .int (I row)), (2, .int (I x))]) (k := 2) hl dX1_gathersSilt_102 rfl (by decide) rfl (fun ls hl => ?_)
        refine j_iinc J (lv' := [(6, .int (I 1)), (5, .int (I 1)), (4, .int (I (0 + (σ 1 (row * σ 18 0 + (x + (-1))))))), (3, .int (I (row * σ 18 0 + x))), (0, .ref (ad 1)), (1, .int (I row)), (2, .int (I x))]) (k := 2) hl dX1_gathersSilt_105 rfl (by decide) rfl (fun ls hl => ?_)
        refine j_goto J 29 dX1_gathersSilt_108 (by decide) ?_
        refine j_iload J dX1_gathersSilt_29 (lv_at hl 0 rfl) ?_
        refine j_iconst J (1) dX1_gathersSilt_31 ?_
        refine j_icmp_gt J 111 (by unfold rg; omega) (by unfold rg; omega) dX1_gathersSilt_32 (by decide) (fun (h_20 : 1 < 1) => absurd h_20 (by omega)) (fun (h_20 : 1 ≤ 1) => ?_)
        refine j_aload_n J dX1_gathersSilt_35 rfl (lv_at hl 4 rfl) ?_
        refine j_iload_n J dX1_gathersSilt_36 rfl (lv_at hl 5 rfl) ?_
        refine j_iload J dX1_gathersSilt_37 (lv_at hl 0 rfl) ?_
        refine j_iadd J dX1_gathersSilt_39 ?_
        refine k_X1_hasRow (row := row + 1) (σ := σ) hD (show Dim σ from hd) (show rg (row + 1) from by unfold rg; omega) J hw hl.1 lk_X1_71 ⟨Nat.le_of_ble_eq_true rfl, Nat.le_of_ble_eq_true rfl⟩ (Nat.le_of_ble_eq_true rfl) dX1_gathersSilt_40 (fun H locs hw => ?_)
        refine j_ifeqB J 70 dX1_gathersSilt_43 (by decide) (fun (h_21 : ¬ (0 ≤ (row + 1) ∧ (row + 1) ≤ σ 18 1 - 1)) => ?_) (fun (h_21 : 0 ≤ (row + 1) ∧ (row + 1) ≤ σ 18 1 - 1) => ?_)
        · refine j_aload_n J dX1_gathersSilt_70 rfl (lv_at hl 4 rfl) ?_
          refine j_iload_n J dX1_gathersSilt_71 rfl (lv_at hl 6 rfl) ?_
          refine j_iload J dX1_gathersSilt_72 (lv_at hl 0 rfl) ?_
          refine j_iadd J dX1_gathersSilt_74 ?_
          refine k_X1_hasColumn (col := x + 1) (σ := σ) hD (show Dim σ from hd) (show rg (x + 1) from by unfold rg; omega) J hw hl.1 lk_X1_75 ⟨Nat.le_of_ble_eq_true rfl, Nat.le_of_ble_eq_true rfl⟩ (Nat.le_of_ble_eq_true rfl) dX1_gathersSilt_75 (fun H locs hw => ?_)
          refine j_ifeqB J 105 dX1_gathersSilt_78 (by decide) (fun (h_22 : ¬ (0 ≤ (x + 1) ∧ (x + 1) ≤ σ 18 0 - 1)) => ?_) (fun (h_22 : 0 ≤ (x + 1) ∧ (x + 1) ≤ σ 18 0 - 1) => ?_)
          · refine j_iinc J (lv' := [(6, .int (I 3)), (5, .int (I 1)), (4, .int (I (0 + (σ 1 (row * σ 18 0 + (x + (-1))))))), (3, .int (I (row * σ 18 0 + x))), (0, .ref (ad 1)), (1, .int (I row)), (2, .int (I x))]) (k := 0) hl dX1_gathersSilt_105 rfl (by decide) rfl (fun ls hl => ?_)
            refine j_goto J 29 dX1_gathersSilt_108 (by decide) ?_
            refine j_iload J dX1_gathersSilt_29 (lv_at hl 0 rfl) ?_
            refine j_iconst J (1) dX1_gathersSilt_31 ?_
            refine j_icmp_gt J 111 (by unfold rg; omega) (by unfold rg; omega) dX1_gathersSilt_32 (by decide) (fun (h_23 : 1 < 3) => ?_) (fun (h_23 : 3 ≤ 1) => absurd h_23 (by omega))
            refine j_iload J dX1_gathersSilt_111 (lv_at hl 1 rfl) ?_
            refine j_if_le J 136 (by unfold rg; omega) dX1_gathersSilt_113 (by decide) (fun (h_24 : 1 ≤ 0) => absurd h_24 (by omega)) (fun (h_24 : 0 < 1) => ?_)
            refine j_aload_n J dX1_gathersSilt_116 rfl (lv_at hl 4 rfl) ?_
            refine xg_1_0 J hw lk_X1_14 dX1_gathersSilt_117 ?_
            refine j_iload_n J dX1_gathersSilt_120 rfl (lv_at hl 3 rfl) ?_
            refine k_X2_get (k := 1) (i := row * σ 18 0 + x) (σ := σ) hD (by decide) (show 0 ≤ row * σ 18 0 + x ∧ (row * σ 18 0 + x) < ((120 : Nat) : Int) from by omega) J hw hl.1 lk_X1_47 ⟨Nat.le_of_ble_eq_true rfl, Nat.le_of_ble_eq_true rfl⟩ (Nat.le_of_ble_eq_true rfl) dX1_gathersSilt_121 (fun H locs hw => ?_)
            refine j_iload J dX1_gathersSilt_124 (lv_at hl 2 rfl) ?_
            refine j_iload J dX1_gathersSilt_126 (lv_at hl 1 rfl) ?_
            refine j_idiv J (show 0 ≤ 0 + (σ 1 (row * σ 18 0 + (x + (-1)))) ∧ (0 + (σ 1 (row * σ 18 0 + (x + (-1))))) < 2147483648 ∧ 0 < 1 ∧ 1 < 2147483648 from by omega) dX1_gathersSilt_128 ?_
            refine j_icmp_le J 136 (show rg (σ 1 (row * σ 18 0 + x)) by unfold rg; omega) (show rg ((0 + (σ 1 (row * σ 18 0 + (x + (-1))))) / 1) by unfold rg; omega) dX1_gathersSilt_129 (by decide) (fun (h_25 : (σ 1 (row * σ 18 0 + x)) ≤ ((0 + (σ 1 (row * σ 18 0 + (x + (-1))))) / 1)) => ?_) (fun (h_25 : ((0 + (σ 1 (row * σ 18 0 + (x + (-1))))) / 1) < (σ 1 (row * σ 18 0 + x))) => ?_)
            · refine j_iconst J (0) dX1_gathersSilt_136 ?_
              exact fin _ _ _ _ _ _ dX1_gathersSilt_137 rfl (⟨by first | exact ga_yes (a := (0 + (σ 1 (row * σ 18 0 + (x + (-1)))))) (b := 1) (by unfold smS; (repeat' split) <;> omega) (by unfold nbS; (repeat' split) <;> omega) (by assumption) (by omega) (by assumption) | exact ga_no (a := (0 + (σ 1 (row * σ 18 0 + (x + (-1)))))) (b := 1) (by unfold smS; (repeat' split) <;> omega) (by unfold nbS; (repeat' split) <;> omega) (by first | exact Or.inl (by omega) | exact Or.inr (by assumption)), rfl⟩) hw
            · refine j_iconst J (1) dX1_gathersSilt_132 ?_
              refine j_goto J 137 dX1_gathersSilt_133 (by decide) ?_
              exact fin _ _ _ _ _ _ dX1_gathersSilt_137 rfl (⟨by first | exact ga_yes (a := (0 + (σ 1 (row * σ 18 0 + (x + (-1)))))) (b := 1) (by unfold smS; (repeat' split) <;> omega) (by unfold nbS; (repeat' split) <;> omega) (by assumption) (by omega) (by assumption) | exact ga_no (a := (0 + (σ 1 (row * σ 18 0 + (x + (-1)))))) (b := 1) (by unfold smS; (repeat' split) <;> omega) (by unfold nbS; (repeat' split) <;> omega) (by first | exact Or.inl (by omega) | exact Or.inr (by assumption)), rfl⟩) hw
          · refine j_iload J dX1_gathersSilt_81 (lv_at hl 2 rfl) ?_
            refine j_aload_n J dX1_gathersSilt_83 rfl (lv_at hl 4 rfl) ?_
            refine xg_1_0 J hw lk_X1_14 dX1_gathersSilt_84 ?_
            refine j_aload_n J dX1_gathersSilt_87 rfl (lv_at hl 4 rfl) ?_
            refine j_iload_n J dX1_gathersSilt_88 rfl (lv_at hl 5 rfl) ?_
            refine j_iload_n J dX1_gathersSilt_89 rfl (lv_at hl 6 rfl) ?_
            refine j_iload J dX1_gathersSilt_90 (lv_at hl 0 rfl) ?_
            refine j_iadd J dX1_gathersSilt_92 ?_
            refine k_X1_number (row := row) (col := x + 1) (σ := σ) hD  J hw hl.1 lk_X1_60 ⟨Nat.le_of_ble_eq_true rfl, Nat.le_of_ble_eq_true rfl⟩ (Nat.le_of_ble_eq_true rfl) dX1_gathersSilt_93 (fun H locs hw => ?_)
            have hcB := cell_in (r := row) (x := x + 1) (C := σ 18 0) (R := σ 18 1) hr.1 hr.2 (by omega) (by omega)
            refine k_X2_get (k := 1) (i := row * σ 18 0 + (x + 1)) (σ := σ) hD (by decide) (show 0 ≤ row * σ 18 0 + (x + 1) ∧ (row * σ 18 0 + (x + 1)) < ((120 : Nat) : Int) from by omega) J hw hl.1 lk_X1_47 ⟨Nat.le_of_ble_eq_true rfl, Nat.le_of_ble_eq_true rfl⟩ (Nat.le_of_ble_eq_true rfl) dX1_gathersSilt_96 (fun H locs hw => ?_)
            have bdB := hB.depth (row * σ 18 0 + (x + 1))
            refine j_iadd J dX1_gathersSilt_99 ?_
            refine j_istore J (lv' := [(4, .int (I ((0 + (σ 1 (row * σ 18 0 + (x + (-1))))) + (σ 1 (row * σ 18 0 + (x + 1)))))), (6, .int (I 1)), (5, .int (I 1)), (3, .int (I (row * σ 18 0 + x))), (0, .ref (ad 1)), (1, .int (I row)), (2, .int (I x))]) hl dX1_gathersSilt_100 (by decide) rfl (fun ls hl => ?_)
            refine j_iinc J (lv' := [(5, .int (I 2)), (4, .int (I ((0 + (σ 1 (row * σ 18 0 + (x + (-1))))) + (σ 1 (row * σ 18 0 + (x + 1)))))), (6, .int (I 1)), (3, .int (I (row * σ 18 0 + x))), (0, .ref (ad 1)), (1, .int (I row)), (2, .int (I x))]) (k := 2) hl dX1_gathersSilt_102 rfl (by decide) rfl (fun ls hl => ?_)
            refine j_iinc J (lv' := [(6, .int (I 3)), (5, .int (I 2)), (4, .int (I ((0 + (σ 1 (row * σ 18 0 + (x + (-1))))) + (σ 1 (row * σ 18 0 + (x + 1)))))), (3, .int (I (row * σ 18 0 + x))), (0, .ref (ad 1)), (1, .int (I row)), (2, .int (I x))]) (k := 2) hl dX1_gathersSilt_105 rfl (by decide) rfl (fun ls hl => ?_)
            refine j_goto J 29 dX1_gathersSilt_108 (by decide) ?_
            refine j_iload J dX1_gathersSilt_29 (lv_at hl 0 rfl) ?_
            refine j_iconst J (1) dX1_gathersSilt_31 ?_
            refine j_icmp_gt J 111 (by unfold rg; omega) (by unfold rg; omega) dX1_gathersSilt_32 (by decide) (fun (h_26 : 1 < 3) => ?_) (fun (h_26 : 3 ≤ 1) => absurd h_26 (by omega))
            refine j_iload J dX1_gathersSilt_111 (lv_at hl 1 rfl) ?_
            refine j_if_le J 136 (by unfold rg; omega) dX1_gathersSilt_113 (by decide) (fun (h_27 : 2 ≤ 0) => absurd h_27 (by omega)) (fun (h_27 : 0 < 2) => ?_)
            refine j_aload_n J dX1_gathersSilt_116 rfl (lv_at hl 4 rfl) ?_
            refine xg_1_0 J hw lk_X1_14 dX1_gathersSilt_117 ?_
            refine j_iload_n J dX1_gathersSilt_120 rfl (lv_at hl 3 rfl) ?_
            refine k_X2_get (k := 1) (i := row * σ 18 0 + x) (σ := σ) hD (by decide) (show 0 ≤ row * σ 18 0 + x ∧ (row * σ 18 0 + x) < ((120 : Nat) : Int) from by omega) J hw hl.1 lk_X1_47 ⟨Nat.le_of_ble_eq_true rfl, Nat.le_of_ble_eq_true rfl⟩ (Nat.le_of_ble_eq_true rfl) dX1_gathersSilt_121 (fun H locs hw => ?_)
            refine j_iload J dX1_gathersSilt_124 (lv_at hl 2 rfl) ?_
            refine j_iload J dX1_gathersSilt_126 (lv_at hl 1 rfl) ?_
            refine j_idiv J (show 0 ≤ (0 + (σ 1 (row * σ 18 0 + (x + (-1))))) + (σ 1 (row * σ 18 0 + (x + 1))) ∧ ((0 + (σ 1 (row * σ 18 0 + (x + (-1))))) + (σ 1 (row * σ 18 0 + (x + 1)))) < 2147483648 ∧ 0 < 2 ∧ 2 < 2147483648 from by omega) dX1_gathersSilt_128 ?_
            refine j_icmp_le J 136 (show rg (σ 1 (row * σ 18 0 + x)) by unfold rg; omega) (show rg (((0 + (σ 1 (row * σ 18 0 + (x + (-1))))) + (σ 1 (row * σ 18 0 + (x + 1)))) / 2) by unfold rg; omega) dX1_gathersSilt_129 (by decide) (fun (h_28 : (σ 1 (row * σ 18 0 + x)) ≤ (((0 + (σ 1 (row * σ 18 0 + (x + (-1))))) + (σ 1 (row * σ 18 0 + (x + 1)))) / 2)) => ?_) (fun (h_28 : (((0 + (σ 1 (row * σ 18 0 + (x + (-1))))) + (σ 1 (row * σ 18 0 + (x + 1)))) / 2) < (σ 1 (row * σ 18 0 + x))) => ?_)
            · refine j_iconst J (0) dX1_gathersSilt_136 ?_
              exact fin _ _ _ _ _ _ dX1_gathersSilt_137 rfl (⟨by first | exact ga_yes (a := ((0 + (σ 1 (row * σ 18 0 + (x + (-1))))) + (σ 1 (row * σ 18 0 + (x + 1))))) (b := 2) (by unfold smS; (repeat' split) <;> omega) (by unfold nbS; (repeat' split) <;> omega) (by assumption) (by omega) (by assumption) | exact ga_no (a := ((0 + (σ 1 (row * σ 18 0 + (x + (-1))))) + (σ 1 (row * σ 18 0 + (x + 1))))) (b := 2) (by unfold smS; (repeat' split) <;> omega) (by unfold nbS; (repeat' split) <;> omega) (by first | exact Or.inl (by omega) | exact Or.inr (by assumption)), rfl⟩) hw
            · refine j_iconst J (1) dX1_gathersSilt_132 ?_
              refine j_goto J 137 dX1_gathersSilt_133 (by decide) ?_
              exact fin _ _ _ _ _ _ dX1_gathersSilt_137 rfl (⟨by first | exact ga_yes (a := ((0 + (σ 1 (row * σ 18 0 + (x + (-1))))) + (σ 1 (row * σ 18 0 + (x + 1))))) (b := 2) (by unfold smS; (repeat' split) <;> omega) (by unfold nbS; (repeat' split) <;> omega) (by assumption) (by omega) (by assumption) | exact ga_no (a := ((0 + (σ 1 (row * σ 18 0 + (x + (-1))))) + (σ 1 (row * σ 18 0 + (x + 1))))) (b := 2) (by unfold smS; (repeat' split) <;> omega) (by unfold nbS; (repeat' split) <;> omega) (by first | exact Or.inl (by omega) | exact Or.inr (by assumption)), rfl⟩) hw
        · refine j_iload J dX1_gathersSilt_46 (lv_at hl 2 rfl) ?_
          refine j_aload_n J dX1_gathersSilt_48 rfl (lv_at hl 4 rfl) ?_
          refine xg_1_0 J hw lk_X1_14 dX1_gathersSilt_49 ?_
          refine j_aload_n J dX1_gathersSilt_52 rfl (lv_at hl 4 rfl) ?_
          refine j_iload_n J dX1_gathersSilt_53 rfl (lv_at hl 5 rfl) ?_
          refine j_iload J dX1_gathersSilt_54 (lv_at hl 0 rfl) ?_
          refine j_iadd J dX1_gathersSilt_56 ?_
          refine j_iload_n J dX1_gathersSilt_57 rfl (lv_at hl 6 rfl) ?_
          refine k_X1_number (row := row + 1) (col := x) (σ := σ) hD  J hw hl.1 lk_X1_60 ⟨Nat.le_of_ble_eq_true rfl, Nat.le_of_ble_eq_true rfl⟩ (Nat.le_of_ble_eq_true rfl) dX1_gathersSilt_58 (fun H locs hw => ?_)
          have hcA := cell_in (r := row + 1) (x := x) (C := σ 18 0) (R := σ 18 1) (by omega) (by omega) hx.1 hx.2
          refine k_X2_get (k := 1) (i := (row + 1) * σ 18 0 + x) (σ := σ) hD (by decide) (show 0 ≤ (row + 1) * σ 18 0 + x ∧ ((row + 1) * σ 18 0 + x) < ((120 : Nat) : Int) from by omega) J hw hl.1 lk_X1_47 ⟨Nat.le_of_ble_eq_true rfl, Nat.le_of_ble_eq_true rfl⟩ (Nat.le_of_ble_eq_true rfl) dX1_gathersSilt_61 (fun H locs hw => ?_)
          have bdA := hB.depth ((row + 1) * σ 18 0 + x)
          refine j_iadd J dX1_gathersSilt_64 ?_
          refine j_istore J (lv' := [(4, .int (I ((0 + (σ 1 (row * σ 18 0 + (x + (-1))))) + (σ 1 ((row + 1) * σ 18 0 + x))))), (6, .int (I 1)), (5, .int (I 1)), (3, .int (I (row * σ 18 0 + x))), (0, .ref (ad 1)), (1, .int (I row)), (2, .int (I x))]) hl dX1_gathersSilt_65 (by decide) rfl (fun ls hl => ?_)
          refine j_iinc J (lv' := [(5, .int (I 2)), (4, .int (I ((0 + (σ 1 (row * σ 18 0 + (x + (-1))))) + (σ 1 ((row + 1) * σ 18 0 + x))))), (6, .int (I 1)), (3, .int (I (row * σ 18 0 + x))), (0, .ref (ad 1)), (1, .int (I row)), (2, .int (I x))]) (k := 2) hl dX1_gathersSilt_67 rfl (by decide) rfl (fun ls hl => ?_)
          refine j_aload_n J dX1_gathersSilt_70 rfl (lv_at hl 4 rfl) ?_
          refine j_iload_n J dX1_gathersSilt_71 rfl (lv_at hl 6 rfl) ?_
          refine j_iload J dX1_gathersSilt_72 (lv_at hl 2 rfl) ?_
          refine j_iadd J dX1_gathersSilt_74 ?_
          refine k_X1_hasColumn (col := x + 1) (σ := σ) hD (show Dim σ from hd) (show rg (x + 1) from by unfold rg; omega) J hw hl.1 lk_X1_75 ⟨Nat.le_of_ble_eq_true rfl, Nat.le_of_ble_eq_true rfl⟩ (Nat.le_of_ble_eq_true rfl) dX1_gathersSilt_75 (fun H locs hw => ?_)
          refine j_ifeqB J 105 dX1_gathersSilt_78 (by decide) (fun (h_29 : ¬ (0 ≤ (x + 1) ∧ (x + 1) ≤ σ 18 0 - 1)) => ?_) (fun (h_29 : 0 ≤ (x + 1) ∧ (x + 1) ≤ σ 18 0 - 1) => ?_)
          · refine j_iinc J (lv' := [(6, .int (I 3)), (5, .int (I 2)), (4, .int (I ((0 + (σ 1 (row * σ 18 0 + (x + (-1))))) + (σ 1 ((row + 1) * σ 18 0 + x))))), (3, .int (I (row * σ 18 0 + x))), (0, .ref (ad 1)), (1, .int (I row)), (2, .int (I x))]) (k := 2) hl dX1_gathersSilt_105 rfl (by decide) rfl (fun ls hl => ?_)
            refine j_goto J 29 dX1_gathersSilt_108 (by decide) ?_
            refine j_iload J dX1_gathersSilt_29 (lv_at hl 0 rfl) ?_
            refine j_iconst J (1) dX1_gathersSilt_31 ?_
            refine j_icmp_gt J 111 (by unfold rg; omega) (by unfold rg; omega) dX1_gathersSilt_32 (by decide) (fun (h_30 : 1 < 3) => ?_) (fun (h_30 : 3 ≤ 1) => absurd h_30 (by omega))
            refine j_iload J dX1_gathersSilt_111 (lv_at hl 1 rfl) ?_
            refine j_if_le J 136 (by unfold rg; omega) dX1_gathersSilt_113 (by decide) (fun (h_31 : 2 ≤ 0) => absurd h_31 (by omega)) (fun (h_31 : 0 < 2) => ?_)
            refine j_aload_n J dX1_gathersSilt_116 rfl (lv_at hl 4 rfl) ?_
            refine xg_1_0 J hw lk_X1_14 dX1_gathersSilt_117 ?_
            refine j_iload_n J dX1_gathersSilt_120 rfl (lv_at hl 3 rfl) ?_
            refine k_X2_get (k := 1) (i := row * σ 18 0 + x) (σ := σ) hD (by decide) (show 0 ≤ row * σ 18 0 + x ∧ (row * σ 18 0 + x) < ((120 : Nat) : Int) from by omega) J hw hl.1 lk_X1_47 ⟨Nat.le_of_ble_eq_true rfl, Nat.le_of_ble_eq_true rfl⟩ (Nat.le_of_ble_eq_true rfl) dX1_gathersSilt_121 (fun H locs hw => ?_)
            refine j_iload J dX1_gathersSilt_124 (lv_at hl 2 rfl) ?_
            refine j_iload J dX1_gathersSilt_126 (lv_at hl 1 rfl) ?_
            refine j_idiv J (show 0 ≤ (0 + (σ 1 (row * σ 18 0 + (x + (-1))))) + (σ 1 ((row + 1) * σ 18 0 + x)) ∧ ((0 + (σ 1 (row * σ 18 0 + (x + (-1))))) + (σ 1 ((row + 1) * σ 18 0 + x))) < 2147483648 ∧ 0 < 2 ∧ 2 < 2147483648 from by omega) dX1_gathersSilt_128 ?_
            refine j_icmp_le J 136 (show rg (σ 1 (row * σ 18 0 + x)) by unfold rg; omega) (show rg (((0 + (σ 1 (row * σ 18 0 + (x + (-1))))) + (σ 1 ((row + 1) * σ 18 0 + x))) / 2) by unfold rg; omega) dX1_gathersSilt_129 (by decide) (fun (h_32 : (σ 1 (row * σ 18 0 + x)) ≤ (((0 + (σ 1 (row * σ 18 0 + (x + (-1))))) + (σ 1 ((row + 1) * σ 18 0 + x))) / 2)) => ?_) (fun (h_32 : (((0 + (σ 1 (row * σ 18 0 + (x + (-1))))) + (σ 1 ((row + 1) * σ 18 0 + x))) / 2) < (σ 1 (row * σ 18 0 + x))) => ?_)
            · refine j_iconst J (0) dX1_gathersSilt_136 ?_
              exact fin _ _ _ _ _ _ dX1_gathersSilt_137 rfl (⟨by first | exact ga_yes (a := ((0 + (σ 1 (row * σ 18 0 + (x + (-1))))) + (σ 1 ((row + 1) * σ 18 0 + x)))) (b := 2) (by unfold smS; (repeat' split) <;> omega) (by unfold nbS; (repeat' split) <;> omega) (by assumption) (by omega) (by assumption) | exact ga_no (a := ((0 + (σ 1 (row * σ 18 0 + (x + (-1))))) + (σ 1 ((row + 1) * σ 18 0 + x)))) (b := 2) (by unfold smS; (repeat' split) <;> omega) (by unfold nbS; (repeat' split) <;> omega) (by first | exact Or.inl (by omega) | exact Or.inr (by assumption)), rfl⟩) hw
            · refine j_iconst J (1) dX1_gathersSilt_132 ?_
              refine j_goto J 137 dX1_gathersSilt_133 (by decide) ?_
              exact fin _ _ _ _ _ _ dX1_gathersSilt_137 rfl (⟨by first | exact ga_yes (a := ((0 + (σ 1 (row * σ 18 0 + (x + (-1))))) + (σ 1 ((row + 1) * σ 18 0 + x)))) (b := 2) (by unfold smS; (repeat' split) <;> omega) (by unfold nbS; (repeat' split) <;> omega) (by assumption) (by omega) (by assumption) | exact ga_no (a := ((0 + (σ 1 (row * σ 18 0 + (x + (-1))))) + (σ 1 ((row + 1) * σ 18 0 + x)))) (b := 2) (by unfold smS; (repeat' split) <;> omega) (by unfold nbS; (repeat' split) <;> omega) (by first | exact Or.inl (by omega) | exact Or.inr (by assumption)), rfl⟩) hw
          · refine j_iload J dX1_gathersSilt_81 (lv_at hl 1 rfl) ?_
            refine j_aload_n J dX1_gathersSilt_83 rfl (lv_at hl 4 rfl) ?_
            refine xg_1_0 J hw lk_X1_14 dX1_gathersSilt_84 ?_
            refine j_aload_n J dX1_gathersSilt_87 rfl (lv_at hl 4 rfl) ?_
            refine j_iload_n J dX1_gathersSilt_88 rfl (lv_at hl 5 rfl) ?_
            refine j_iload_n J dX1_gathersSilt_89 rfl (lv_at hl 6 rfl) ?_
            refine j_iload J dX1_gathersSilt_90 (lv_at hl 2 rfl) ?_
            refine j_iadd J dX1_gathersSilt_92 ?_
            refine k_X1_number (row := row) (col := x + 1) (σ := σ) hD  J hw hl.1 lk_X1_60 ⟨Nat.le_of_ble_eq_true rfl, Nat.le_of_ble_eq_true rfl⟩ (Nat.le_of_ble_eq_true rfl) dX1_gathersSilt_93 (fun H locs hw => ?_)
            have hcB := cell_in (r := row) (x := x + 1) (C := σ 18 0) (R := σ 18 1) hr.1 hr.2 (by omega) (by omega)
            refine k_X2_get (k := 1) (i := row * σ 18 0 + (x + 1)) (σ := σ) hD (by decide) (show 0 ≤ row * σ 18 0 + (x + 1) ∧ (row * σ 18 0 + (x + 1)) < ((120 : Nat) : Int) from by omega) J hw hl.1 lk_X1_47 ⟨Nat.le_of_ble_eq_true rfl, Nat.le_of_ble_eq_true rfl⟩ (Nat.le_of_ble_eq_true rfl) dX1_gathersSilt_96 (fun H locs hw => ?_)
            have bdB := hB.depth (row * σ 18 0 + (x + 1))
            refine j_iadd J dX1_gathersSilt_99 ?_
            refine j_istore J (lv' := [(4, .int (I (((0 + (σ 1 (row * σ 18 0 + (x + (-1))))) + (σ 1 ((row + 1) * σ 18 0 + x))) + (σ 1 (row * σ 18 0 + (x + 1)))))), (5, .int (I 2)), (6, .int (I 1)), (3, .int (I (row * σ 18 0 + x))), (0, .ref (ad 1)), (1, .int (I row)), (2, .int (I x))]) hl dX1_gathersSilt_100 (by decide) rfl (fun ls hl => ?_)
            refine j_iinc J (lv' := [(5, .int (I 3)), (4, .int (I (((0 + (σ 1 (row * σ 18 0 + (x + (-1))))) + (σ 1 ((row + 1) * σ 18 0 + x))) + (σ 1 (row * σ 18 0 + (x + 1)))))), (6, .int (I 1)), (3, .int (I (row * σ 18 0 + x))), (0, .ref (ad 1)), (1, .int (I row)), (2, .int (I x))]) (k := 1) hl dX1_gathersSilt_102 rfl (by decide) rfl (fun ls hl => ?_)
            refine j_iinc J (lv' := [(6, .int (I 3)), (5, .int (I 3)), (4, .int (I (((0 + (σ 1 (row * σ 18 0 + (x + (-1))))) + (σ 1 ((row + 1) * σ 18 0 + x))) + (σ 1 (row * σ 18 0 + (x + 1)))))), (3, .int (I (row * σ 18 0 + x))), (0, .ref (ad 1)), (1, .int (I row)), (2, .int (I x))]) (k := 2) hl dX1_gathersSilt_105 rfl (by decide) rfl (fun ls hl => ?_)
            refine j_goto J 29 dX1_gathersSilt_108 (by decide) ?_
            refine j_iload J dX1_gathersSilt_29 (lv_at hl 0 rfl) ?_
            refine j_iconst J (1) dX1_gathersSilt_31 ?_
            refine j_icmp_gt J 111 (by unfold rg; omega) (by unfold rg; omega) dX1_gathersSilt_32 (by decide) (fun (h_33 : 1 < 3) => ?_) (fun (h_33 : 3 ≤ 1) => absurd h_33 (by omega))
            refine j_iload J dX1_gathersSilt_111 (lv_at hl 1 rfl) ?_
            refine j_if_le J 136 (by unfold rg; omega) dX1_gathersSilt_113 (by decide) (fun (h_34 : 3 ≤ 0) => absurd h_34 (by omega)) (fun (h_34 : 0 < 3) => ?_)
            refine j_aload_n J dX1_gathersSilt_116 rfl (lv_at hl 4 rfl) ?_
            refine xg_1_0 J hw lk_X1_14 dX1_gathersSilt_117 ?_
            refine j_iload_n J dX1_gathersSilt_120 rfl (lv_at hl 3 rfl) ?_
            refine k_X2_get (k := 1) (i := row * σ 18 0 + x) (σ := σ) hD (by decide) (show 0 ≤ row * σ 18 0 + x ∧ (row * σ 18 0 + x) < ((120 : Nat) : Int) from by omega) J hw hl.1 lk_X1_47 ⟨Nat.le_of_ble_eq_true rfl, Nat.le_of_ble_eq_true rfl⟩ (Nat.le_of_ble_eq_true rfl) dX1_gathersSilt_121 (fun H locs hw => ?_)
            refine j_iload J dX1_gathersSilt_124 (lv_at hl 2 rfl) ?_
            refine j_iload J dX1_gathersSilt_126 (lv_at hl 1 rfl) ?_
            refine j_idiv J (show 0 ≤ ((0 + (σ 1 (row * σ 18 0 + (x + (-1))))) + (σ 1 ((row + 1) * σ 18 0 + x))) + (σ 1 (row * σ 18 0 + (x + 1))) ∧ (((0 + (σ 1 (row * σ 18 0 + (x + (-1))))) + (σ 1 ((row + 1) * σ 18 0 + x))) + (σ 1 (row * σ 18 0 + (x + 1)))) < 2147483648 ∧ 0 < 3 ∧ 3 < 2147483648 from by omega) dX1_gathersSilt_128 ?_
            refine j_icmp_le J 136 (show rg (σ 1 (row * σ 18 0 + x)) by unfold rg; omega) (show rg ((((0 + (σ 1 (row * σ 18 0 + (x + (-1))))) + (σ 1 ((row + 1) * σ 18 0 + x))) + (σ 1 (row * σ 18 0 + (x + 1)))) / 3) by unfold rg; omega) dX1_gathersSilt_129 (by decide) (fun (h_35 : (σ 1 (row * σ 18 0 + x)) ≤ ((((0 + (σ 1 (row * σ 18 0 + (x + (-1))))) + (σ 1 ((row + 1) * σ 18 0 + x))) + (σ 1 (row * σ 18 0 + (x + 1)))) / 3)) => ?_) (fun (h_35 : ((((0 + (σ 1 (row * σ 18 0 + (x + (-1))))) + (σ 1 ((row + 1) * σ 18 0 + x))) + (σ 1 (row * σ 18 0 + (x + 1)))) / 3) < (σ 1 (row * σ 18 0 + x))) => ?_)
            · refine j_iconst J (0) dX1_gathersSilt_136 ?_
              exact fin _ _ _ _ _ _ dX1_gathersSilt_137 rfl (⟨by first | exact ga_yes (a := (((0 + (σ 1 (row * σ 18 0 + (x + (-1))))) + (σ 1 ((row + 1) * σ 18 0 + x))) + (σ 1 (row * σ 18 0 + (x + 1))))) (b := 3) (by unfold smS; (repeat' split) <;> omega) (by unfold nbS; (repeat' split) <;> omega) (by assumption) (by omega) (by assumption) | exact ga_no (a := (((0 + (σ 1 (row * σ 18 0 + (x + (-1))))) + (σ 1 ((row + 1) * σ 18 0 + x))) + (σ 1 (row * σ 18 0 + (x + 1))))) (b := 3) (by unfold smS; (repeat' split) <;> omega) (by unfold nbS; (repeat' split) <;> omega) (by first | exact Or.inl (by omega) | exact Or.inr (by assumption)), rfl⟩) hw
            · refine j_iconst J (1) dX1_gathersSilt_132 ?_
              refine j_goto J 137 dX1_gathersSilt_133 (by decide) ?_
              exact fin _ _ _ _ _ _ dX1_gathersSilt_137 rfl (⟨by first | exact ga_yes (a := (((0 + (σ 1 (row * σ 18 0 + (x + (-1))))) + (σ 1 ((row + 1) * σ 18 0 + x))) + (σ 1 (row * σ 18 0 + (x + 1))))) (b := 3) (by unfold smS; (repeat' split) <;> omega) (by unfold nbS; (repeat' split) <;> omega) (by assumption) (by omega) (by assumption) | exact ga_no (a := (((0 + (σ 1 (row * σ 18 0 + (x + (-1))))) + (σ 1 ((row + 1) * σ 18 0 + x))) + (σ 1 (row * σ 18 0 + (x + 1))))) (b := 3) (by unfold smS; (repeat' split) <;> omega) (by unfold nbS; (repeat' split) <;> omega) (by first | exact Or.inl (by omega) | exact Or.inr (by assumption)), rfl⟩) hw
    · refine j_iload J dX1_gathersSilt_46 (lv_at hl 2 rfl) ?_
      refine j_aload_n J dX1_gathersSilt_48 rfl (lv_at hl 4 rfl) ?_
      refine xg_1_0 J hw lk_X1_14 dX1_gathersSilt_49 ?_
      refine j_aload_n J dX1_gathersSilt_52 rfl (lv_at hl 4 rfl) ?_
      refine j_iload_n J dX1_gathersSilt_53 rfl (lv_at hl 5 rfl) ?_
      refine j_iload J dX1_gathersSilt_54 (lv_at hl 0 rfl) ?_
      refine j_iadd J dX1_gathersSilt_56 ?_
      refine j_iload_n J dX1_gathersSilt_57 rfl (lv_at hl 6 rfl) ?_
      refine k_X1_number (row := row + (-1)) (col := x) (σ := σ) hD  J hw hl.1 lk_X1_60 ⟨Nat.le_of_ble_eq_true rfl, Nat.le_of_ble_eq_true rfl⟩ (Nat.le_of_ble_eq_true rfl) dX1_gathersSilt_58 (fun H locs hw => ?_)
      have hcA := cell_in (r := row + (-1)) (x := x) (C := σ 18 0) (R := σ 18 1) (by omega) (by omega) hx.1 hx.2
      refine k_X2_get (k := 1) (i := (row + (-1)) * σ 18 0 + x) (σ := σ) hD (by decide) (show 0 ≤ (row + (-1)) * σ 18 0 + x ∧ ((row + (-1)) * σ 18 0 + x) < ((120 : Nat) : Int) from by omega) J hw hl.1 lk_X1_47 ⟨Nat.le_of_ble_eq_true rfl, Nat.le_of_ble_eq_true rfl⟩ (Nat.le_of_ble_eq_true rfl) dX1_gathersSilt_61 (fun H locs hw => ?_)
      have bdA := hB.depth ((row + (-1)) * σ 18 0 + x)
      refine j_iadd J dX1_gathersSilt_64 ?_
      refine j_istore J (lv' := [(4, .int (I (0 + (σ 1 ((row + (-1)) * σ 18 0 + x))))), (6, .int (I (-1))), (5, .int (I 0)), (3, .int (I (row * σ 18 0 + x))), (0, .ref (ad 1)), (1, .int (I row)), (2, .int (I x))]) hl dX1_gathersSilt_65 (by decide) rfl (fun ls hl => ?_)
      refine j_iinc J (lv' := [(5, .int (I 1)), (4, .int (I (0 + (σ 1 ((row + (-1)) * σ 18 0 + x))))), (6, .int (I (-1))), (3, .int (I (row * σ 18 0 + x))), (0, .ref (ad 1)), (1, .int (I row)), (2, .int (I x))]) (k := 2) hl dX1_gathersSilt_67 rfl (by decide) rfl (fun ls hl => ?_)
      refine j_aload_n J dX1_gathersSilt_70 rfl (lv_at hl 4 rfl) ?_
      refine j_iload_n J dX1_gathersSilt_71 rfl (lv_at hl 6 rfl) ?_
      refine j_iload J dX1_gathersSilt_72 (lv_at hl 2 rfl) ?_
      refine j_iadd J dX1_gathersSilt_74 ?_
      refine k_X1_hasColumn (col := x + (-1)) (σ := σ) hD (show Dim σ from hd) (show rg (x + (-1)) from by unfold rg; omega) J hw hl.1 lk_X1_75 ⟨Nat.le_of_ble_eq_true rfl, Nat.le_of_ble_eq_true rfl⟩ (Nat.le_of_ble_eq_true rfl) dX1_gathersSilt_75 (fun H locs hw => ?_)
      refine j_ifeqB J 105 dX1_gathersSilt_78 (by decide) (fun (h_36 : ¬ (0 ≤ (x + (-1)) ∧ (x + (-1)) ≤ σ 18 0 - 1)) => ?_) (fun (h_36 : 0 ≤ (x + (-1)) ∧ (x + (-1)) ≤ σ 18 0 - 1) => ?_)
      · refine j_iinc J (lv' := [(6, .int (I 1)), (5, .int (I 1)), (4, .int (I (0 + (σ 1 ((row + (-1)) * σ 18 0 + x))))), (3, .int (I (row * σ 18 0 + x))), (0, .ref (ad 1)), (1, .int (I row)), (2, .int (I x))]) (k := 2) hl dX1_gathersSilt_105 rfl (by decide) rfl (fun ls hl => ?_)
        refine j_goto J 29 dX1_gathersSilt_108 (by decide) ?_
        refine j_iload J dX1_gathersSilt_29 (lv_at hl 0 rfl) ?_
        refine j_iconst J (1) dX1_gathersSilt_31 ?_
        refine j_icmp_gt J 111 (by unfold rg; omega) (by unfold rg; omega) dX1_gathersSilt_32 (by decide) (fun (h_37 : 1 < 1) => absurd h_37 (by omega)) (fun (h_37 : 1 ≤ 1) => ?_)
        refine j_aload_n J dX1_gathersSilt_35 rfl (lv_at hl 4 rfl) ?_
        refine j_iload_n J dX1_gathersSilt_36 rfl (lv_at hl 5 rfl) ?_
        refine j_iload J dX1_gathersSilt_37 (lv_at hl 0 rfl) ?_
        refine j_iadd J dX1_gathersSilt_39 ?_
        refine k_X1_hasRow (row := row + 1) (σ := σ) hD (show Dim σ from hd) (show rg (row + 1) from by unfold rg; omega) J hw hl.1 lk_X1_71 ⟨Nat.le_of_ble_eq_true rfl, Nat.le_of_ble_eq_true rfl⟩ (Nat.le_of_ble_eq_true rfl) dX1_gathersSilt_40 (fun H locs hw => ?_)
        refine j_ifeqB J 70 dX1_gathersSilt_43 (by decide) (fun (h_38 : ¬ (0 ≤ (row + 1) ∧ (row + 1) ≤ σ 18 1 - 1)) => ?_) (fun (h_38 : 0 ≤ (row + 1) ∧ (row + 1) ≤ σ 18 1 - 1) => ?_)
        · refine j_aload_n J dX1_gathersSilt_70 rfl (lv_at hl 4 rfl) ?_
          refine j_iload_n J dX1_gathersSilt_71 rfl (lv_at hl 6 rfl) ?_
          refine j_iload J dX1_gathersSilt_72 (lv_at hl 0 rfl) ?_
          refine j_iadd J dX1_gathersSilt_74 ?_
          refine k_X1_hasColumn (col := x + 1) (σ := σ) hD (show Dim σ from hd) (show rg (x + 1) from by unfold rg; omega) J hw hl.1 lk_X1_75 ⟨Nat.le_of_ble_eq_true rfl, Nat.le_of_ble_eq_true rfl⟩ (Nat.le_of_ble_eq_true rfl) dX1_gathersSilt_75 (fun H locs hw => ?_)
          refine j_ifeqB J 105 dX1_gathersSilt_78 (by decide) (fun (h_39 : ¬ (0 ≤ (x + 1) ∧ (x + 1) ≤ σ 18 0 - 1)) => ?_) (fun (h_39 : 0 ≤ (x + 1) ∧ (x + 1) ≤ σ 18 0 - 1) => ?_)
          · refine j_iinc J (lv' := [(6, .int (I 3)), (5, .int (I 1)), (4, .int (I (0 + (σ 1 ((row + (-1)) * σ 18 0 + x))))), (3, .int (I (row * σ 18 0 + x))), (0, .ref (ad 1)), (1, .int (I row)), (2, .int (I x))]) (k := 0) hl dX1_gathersSilt_105 rfl (by decide) rfl (fun ls hl => ?_)
            refine j_goto J 29 dX1_gathersSilt_108 (by decide) ?_
            refine j_iload J dX1_gathersSilt_29 (lv_at hl 0 rfl) ?_
            refine j_iconst J (1) dX1_gathersSilt_31 ?_
            refine j_icmp_gt J 111 (by unfold rg; omega) (by unfold rg; omega) dX1_gathersSilt_32 (by decide) (fun (h_40 : 1 < 3) => ?_) (fun (h_40 : 3 ≤ 1) => absurd h_40 (by omega))
            refine j_iload J dX1_gathersSilt_111 (lv_at hl 1 rfl) ?_
            refine j_if_le J 136 (by unfold rg; omega) dX1_gathersSilt_113 (by decide) (fun (h_41 : 1 ≤ 0) => absurd h_41 (by omega)) (fun (h_41 : 0 < 1) => ?_)
            refine j_aload_n J dX1_gathersSilt_116 rfl (lv_at hl 4 rfl) ?_
            refine xg_1_0 J hw lk_X1_14 dX1_gathersSilt_117 ?_
            refine j_iload_n J dX1_gathersSilt_120 rfl (lv_at hl 3 rfl) ?_
            refine k_X2_get (k := 1) (i := row * σ 18 0 + x) (σ := σ) hD (by decide) (show 0 ≤ row * σ 18 0 + x ∧ (row * σ 18 0 + x) < ((120 : Nat) : Int) from by omega) J hw hl.1 lk_X1_47 ⟨Nat.le_of_ble_eq_true rfl, Nat.le_of_ble_eq_true rfl⟩ (Nat.le_of_ble_eq_true rfl) dX1_gathersSilt_121 (fun H locs hw => ?_)
            refine j_iload J dX1_gathersSilt_124 (lv_at hl 2 rfl) ?_
            refine j_iload J dX1_gathersSilt_126 (lv_at hl 1 rfl) ?_
            refine j_idiv J (show 0 ≤ 0 + (σ 1 ((row + (-1)) * σ 18 0 + x)) ∧ (0 + (σ 1 ((row + (-1)) * σ 18 0 + x))) < 2147483648 ∧ 0 < 1 ∧ 1 < 2147483648 from by omega) dX1_gathersSilt_128 ?_
            refine j_icmp_le J 136 (show rg (σ 1 (row * σ 18 0 + x)) by unfold rg; omega) (show rg ((0 + (σ 1 ((row + (-1)) * σ 18 0 + x))) / 1) by unfold rg; omega) dX1_gathersSilt_129 (by decide) (fun (h_42 : (σ 1 (row * σ 18 0 + x)) ≤ ((0 + (σ 1 ((row + (-1)) * σ 18 0 + x))) / 1)) => ?_) (fun (h_42 : ((0 + (σ 1 ((row + (-1)) * σ 18 0 + x))) / 1) < (σ 1 (row * σ 18 0 + x))) => ?_)
            · refine j_iconst J (0) dX1_gathersSilt_136 ?_
              exact fin _ _ _ _ _ _ dX1_gathersSilt_137 rfl (⟨by first | exact ga_yes (a := (0 + (σ 1 ((row + (-1)) * σ 18 0 + x)))) (b := 1) (by unfold smS; (repeat' split) <;> omega) (by unfold nbS; (repeat' split) <;> omega) (by assumption) (by omega) (by assumption) | exact ga_no (a := (0 + (σ 1 ((row + (-1)) * σ 18 0 + x)))) (b := 1) (by unfold smS; (repeat' split) <;> omega) (by unfold nbS; (repeat' split) <;> omega) (by first | exact Or.inl (by omega) | exact Or.inr (by assumption)), rfl⟩) hw
            · refine j_iconst J (1) dX1_gathersSilt_132 ?_
              refine j_goto J 137 dX1_gathersSilt_133 (by decide) ?_
              exact fin _ _ _ _ _ _ dX1_gathersSilt_137 rfl (⟨by first | exact ga_yes (a := (0 + (σ 1 ((row + (-1)) * σ 18 0 + x)))) (b := 1) (by unfold smS; (repeat' split) <;> omega) (by unfold nbS; (repeat' split) <;> omega) (by assumption) (by omega) (by assumption) | exact ga_no (a := (0 + (σ 1 ((row + (-1)) * σ 18 0 + x)))) (b := 1) (by unfold smS; (repeat' split) <;> omega) (by unfold nbS; (repeat' split) <;> omega) (by first | exact Or.inl (by omega) | exact Or.inr (by assumption)), rfl⟩) hw
          · refine j_iload J dX1_gathersSilt_81 (lv_at hl 2 rfl) ?_
            refine j_aload_n J dX1_gathersSilt_83 rfl (lv_at hl 4 rfl) ?_
            refine xg_1_0 J hw lk_X1_14 dX1_gathersSilt_84 ?_
            refine j_aload_n J dX1_gathersSilt_87 rfl (lv_at hl 4 rfl) ?_
            refine j_iload_n J dX1_gathersSilt_88 rfl (lv_at hl 5 rfl) ?_
            refine j_iload_n J dX1_gathersSilt_89 rfl (lv_at hl 6 rfl) ?_
            refine j_iload J dX1_gathersSilt_90 (lv_at hl 0 rfl) ?_
            refine j_iadd J dX1_gathersSilt_92 ?_
            refine k_X1_number (row := row) (col := x + 1) (σ := σ) hD  J hw hl.1 lk_X1_60 ⟨Nat.le_of_ble_eq_true rfl, Nat.le_of_ble_eq_true rfl⟩ (Nat.le_of_ble_eq_true rfl) dX1_gathersSilt_93 (fun H locs hw => ?_)
            have hcB := cell_in (r := row) (x := x + 1) (C := σ 18 0) (R := σ 18 1) hr.1 hr.2 (by omega) (by omega)
            refine k_X2_get (k := 1) (i := row * σ 18 0 + (x + 1)) (σ := σ) hD (by decide) (show 0 ≤ row * σ 18 0 + (x + 1) ∧ (row * σ 18 0 + (x + 1)) < ((120 : Nat) : Int) from by omega) J hw hl.1 lk_X1_47 ⟨Nat.le_of_ble_eq_true rfl, Nat.le_of_ble_eq_true rfl⟩ (Nat.le_of_ble_eq_true rfl) dX1_gathersSilt_96 (fun H locs hw => ?_)
            have bdB := hB.depth (row * σ 18 0 + (x + 1))
            refine j_iadd J dX1_gathersSilt_99 ?_
            refine j_istore J (lv' := [(4, .int (I ((0 + (σ 1 ((row + (-1)) * σ 18 0 + x))) + (σ 1 (row * σ 18 0 + (x + 1)))))), (6, .int (I 1)), (5, .int (I 1)), (3, .int (I (row * σ 18 0 + x))), (0, .ref (ad 1)), (1, .int (I row)), (2, .int (I x))]) hl dX1_gathersSilt_100 (by decide) rfl (fun ls hl => ?_)
            refine j_iinc J (lv' := [(5, .int (I 2)), (4, .int (I ((0 + (σ 1 ((row + (-1)) * σ 18 0 + x))) + (σ 1 (row * σ 18 0 + (x + 1)))))), (6, .int (I 1)), (3, .int (I (row * σ 18 0 + x))), (0, .ref (ad 1)), (1, .int (I row)), (2, .int (I x))]) (k := 2) hl dX1_gathersSilt_102 rfl (by decide) rfl (fun ls hl => ?_)
            refine j_iinc J (lv' := [(6, .int (I 3)), (5, .int (I 2)), (4, .int (I ((0 + (σ 1 ((row + (-1)) * σ 18 0 + x))) + (σ 1 (row * σ 18 0 + (x + 1)))))), (3, .int (I (row * σ 18 0 + x))), (0, .ref (ad 1)), (1, .int (I row)), (2, .int (I x))]) (k := 2) hl dX1_gathersSilt_105 rfl (by decide) rfl (fun ls hl => ?_)
            refine j_goto J 29 dX1_gathersSilt_108 (by decide) ?_
            refine j_iload J dX1_gathersSilt_29 (lv_at hl 0 rfl) ?_
            refine j_iconst J (1) dX1_gathersSilt_31 ?_
            refine j_icmp_gt J 111 (by unfold rg; omega) (by unfold rg; omega) dX1_gathersSilt_32 (by decide) (fun (h_43 : 1 < 3) => ?_) (fun (h_43 : 3 ≤ 1) => absurd h_43 (by omega))
            refine j_iload J dX1_gathersSilt_111 (lv_at hl 1 rfl) ?_
            refine j_if_le J 136 (by unfold rg; omega) dX1_gathersSilt_113 (by decide) (fun (h_44 : 2 ≤ 0) => absurd h_44 (by omega)) (fun (h_44 : 0 < 2) => ?_)
            refine j_aload_n J dX1_gathersSilt_116 rfl (lv_at hl 4 rfl) ?_
            refine xg_1_0 J hw lk_X1_14 dX1_gathersSilt_117 ?_
            refine j_iload_n J dX1_gathersSilt_120 rfl (lv_at hl 3 rfl) ?_
            refine k_X2_get (k := 1) (i := row * σ 18 0 + x) (σ := σ) hD (by decide) (show 0 ≤ row * σ 18 0 + x ∧ (row * σ 18 0 + x) < ((120 : Nat) : Int) from by omega) J hw hl.1 lk_X1_47 ⟨Nat.le_of_ble_eq_true rfl, Nat.le_of_ble_eq_true rfl⟩ (Nat.le_of_ble_eq_true rfl) dX1_gathersSilt_121 (fun H locs hw => ?_)
            refine j_iload J dX1_gathersSilt_124 (lv_at hl 2 rfl) ?_
            refine j_iload J dX1_gathersSilt_126 (lv_at hl 1 rfl) ?_
            refine j_idiv J (show 0 ≤ (0 + (σ 1 ((row + (-1)) * σ 18 0 + x))) + (σ 1 (row * σ 18 0 + (x + 1))) ∧ ((0 + (σ 1 ((row + (-1)) * σ 18 0 + x))) + (σ 1 (row * σ 18 0 + (x + 1)))) < 2147483648 ∧ 0 < 2 ∧ 2 < 2147483648 from by omega) dX1_gathersSilt_128 ?_
            refine j_icmp_le J 136 (show rg (σ 1 (row * σ 18 0 + x)) by unfold rg; omega) (show rg (((0 + (σ 1 ((row + (-1)) * σ 18 0 + x))) + (σ 1 (row * σ 18 0 + (x + 1)))) / 2) by unfold rg; omega) dX1_gathersSilt_129 (by decide) (fun (h_45 : (σ 1 (row * σ 18 0 + x)) ≤ (((0 + (σ 1 ((row + (-1)) * σ 18 0 + x))) + (σ 1 (row * σ 18 0 + (x + 1)))) / 2)) => ?_) (fun (h_45 : (((0 + (σ 1 ((row + (-1)) * σ 18 0 + x))) + (σ 1 (row * σ 18 0 + (x + 1)))) / 2) < (σ 1 (row * σ 18 0 + x))) => ?_)
            · refine j_iconst J (0) dX1_gathersSilt_136 ?_
              exact fin _ _ _ _ _ _ dX1_gathersSilt_137 rfl (⟨by first | exact ga_yes (a := ((0 + (σ 1 ((row + (-1)) * σ 18 0 + x))) + (σ 1 (row * σ 18 0 + (x + 1))))) (b := 2) (by unfold smS; (repeat' split) <;> omega) (by unfold nbS; (repeat' split) <;> omega) (by assumption) (by omega) (by assumption) | exact ga_no (a := ((0 + (σ 1 ((row + (-1)) * σ 18 0 + x))) + (σ 1 (row * σ 18 0 + (x + 1))))) (b := 2) (by unfold smS; (repeat' split) <;> omega) (by unfold nbS; (repeat' split) <;> omega) (by first | exact Or.inl (by omega) | exact Or.inr (by assumption)), rfl⟩) hw
            · refine j_iconst J (1) dX1_gathersSilt_132 ?_
              refine j_goto J 137 dX1_gathersSilt_133 (by decide) ?_
              exact fin _ _ _ _ _ _ dX1_gathersSilt_137 rfl (⟨by first | exact ga_yes (a := ((0 + (σ 1 ((row + (-1)) * σ 18 0 + x))) + (σ 1 (row * σ 18 0 + (x + 1))))) (b := 2) (by unfold smS; (repeat' split) <;> omega) (by unfold nbS; (repeat' split) <;> omega) (by assumption) (by omega) (by assumption) | exact ga_no (a := ((0 + (σ 1 ((row + (-1)) * σ 18 0 + x))) + (σ 1 (row * σ 18 0 + (x + 1))))) (b := 2) (by unfold smS; (repeat' split) <;> omega) (by unfold nbS; (repeat' split) <;> omega) (by first | exact Or.inl (by omega) | exact Or.inr (by assumption)), rfl⟩) hw
        · refine j_iload J dX1_gathersSilt_46 (lv_at hl 2 rfl) ?_
          refine j_aload_n J dX1_gathersSilt_48 rfl (lv_at hl 4 rfl) ?_
          refine xg_1_0 J hw lk_X1_14 dX1_gathersSilt_49 ?_
          refine j_aload_n J dX1_gathersSilt_52 rfl (lv_at hl 4 rfl) ?_
          refine j_iload_n J dX1_gathersSilt_53 rfl (lv_at hl 5 rfl) ?_
          refine j_iload J dX1_gathersSilt_54 (lv_at hl 0 rfl) ?_
          refine j_iadd J dX1_gathersSilt_56 ?_
          refine j_iload_n J dX1_gathersSilt_57 rfl (lv_at hl 6 rfl) ?_
          refine k_X1_number (row := row + 1) (col := x) (σ := σ) hD  J hw hl.1 lk_X1_60 ⟨Nat.le_of_ble_eq_true rfl, Nat.le_of_ble_eq_true rfl⟩ (Nat.le_of_ble_eq_true rfl) dX1_gathersSilt_58 (fun H locs hw => ?_)
          have hcA := cell_in (r := row + 1) (x := x) (C := σ 18 0) (R := σ 18 1) (by omega) (by omega) hx.1 hx.2
          refine k_X2_get (k := 1) (i := (row + 1) * σ 18 0 + x) (σ := σ) hD (by decide) (show 0 ≤ (row + 1) * σ 18 0 + x ∧ ((row + 1) * σ 18 0 + x) < ((120 : Nat) : Int) from by omega) J hw hl.1 lk_X1_47 ⟨Nat.le_of_ble_eq_true rfl, Nat.le_of_ble_eq_true rfl⟩ (Nat.le_of_ble_eq_true rfl) dX1_gathersSilt_61 (fun H locs hw => ?_)
          have bdA := hB.depth ((row + 1) * σ 18 0 + x)
          refine j_iadd J dX1_gathersSilt_64 ?_
          refine j_istore J (lv' := [(4, .int (I ((0 + (σ 1 ((row + (-1)) * σ 18 0 + x))) + (σ 1 ((row + 1) * σ 18 0 + x))))), (6, .int (I 1)), (5, .int (I 1)), (3, .int (I (row * σ 18 0 + x))), (0, .ref (ad 1)), (1, .int (I row)), (2, .int (I x))]) hl dX1_gathersSilt_65 (by decide) rfl (fun ls hl => ?_)
          refine j_iinc J (lv' := [(5, .int (I 2)), (4, .int (I ((0 + (σ 1 ((row + (-1)) * σ 18 0 + x))) + (σ 1 ((row + 1) * σ 18 0 + x))))), (6, .int (I 1)), (3, .int (I (row * σ 18 0 + x))), (0, .ref (ad 1)), (1, .int (I row)), (2, .int (I x))]) (k := 2) hl dX1_gathersSilt_67 rfl (by decide) rfl (fun ls hl => ?_)
          refine j_aload_n J dX1_gathersSilt_70 rfl (lv_at hl 4 rfl) ?_
          refine j_iload_n J dX1_gathersSilt_71 rfl (lv_at hl 6 rfl) ?_
          refine j_iload J dX1_gathersSilt_72 (lv_at hl 2 rfl) ?_
          refine j_iadd J dX1_gathersSilt_74 ?_
          refine k_X1_hasColumn (col := x + 1) (σ := σ) hD (show Dim σ from hd) (show rg (x + 1) from by unfold rg; omega) J hw hl.1 lk_X1_75 ⟨Nat.le_of_ble_eq_true rfl, Nat.le_of_ble_eq_true rfl⟩ (Nat.le_of_ble_eq_true rfl) dX1_gathersSilt_75 (fun H locs hw => ?_)
          refine j_ifeqB J 105 dX1_gathersSilt_78 (by decide) (fun (h_46 : ¬ (0 ≤ (x + 1) ∧ (x + 1) ≤ σ 18 0 - 1)) => ?_) (fun (h_46 : 0 ≤ (x + 1) ∧ (x + 1) ≤ σ 18 0 - 1) => ?_)
          · refine j_iinc J (lv' := [(6, .int (I 3)), (5, .int (I 2)), (4, .int (I ((0 + (σ 1 ((row + (-1)) * σ 18 0 + x))) + (σ 1 ((row + 1) * σ 18 0 + x))))), (3, .int (I (row * σ 18 0 + x))), (0, .ref (ad 1)), (1, .int (I row)), (2, .int (I x))]) (k := 2) hl dX1_gathersSilt_105 rfl (by decide) rfl (fun ls hl => ?_)
            refine j_goto J 29 dX1_gathersSilt_108 (by decide) ?_
            refine j_iload J dX1_gathersSilt_29 (lv_at hl 0 rfl) ?_
            refine j_iconst J (1) dX1_gathersSilt_31 ?_
            refine j_icmp_gt J 111 (by unfold rg; omega) (by unfold rg; omega) dX1_gathersSilt_32 (by decide) (fun (h_47 : 1 < 3) => ?_) (fun (h_47 : 3 ≤ 1) => absurd h_47 (by omega))
            refine j_iload J dX1_gathersSilt_111 (lv_at hl 1 rfl) ?_
            refine j_if_le J 136 (by unfold rg; omega) dX1_gathersSilt_113 (by decide) (fun (h_48 : 2 ≤ 0) => absurd h_48 (by omega)) (fun (h_48 : 0 < 2) => ?_)
            refine j_aload_n J dX1_gathersSilt_116 rfl (lv_at hl 4 rfl) ?_
            refine xg_1_0 J hw lk_X1_14 dX1_gathersSilt_117 ?_
            refine j_iload_n J dX1_gathersSilt_120 rfl (lv_at hl 3 rfl) ?_
            refine k_X2_get (k := 1) (i := row * σ 18 0 + x) (σ := σ) hD (by decide) (show 0 ≤ row * σ 18 0 + x ∧ (row * σ 18 0 + x) < ((120 : Nat) : Int) from by omega) J hw hl.1 lk_X1_47 ⟨Nat.le_of_ble_eq_true rfl, Nat.le_of_ble_eq_true rfl⟩ (Nat.le_of_ble_eq_true rfl) dX1_gathersSilt_121 (fun H locs hw => ?_)
            refine j_iload J dX1_gathersSilt_124 (lv_at hl 2 rfl) ?_
            refine j_iload J dX1_gathersSilt_126 (lv_at hl 1 rfl) ?_
            refine j_idiv J (show 0 ≤ (0 + (σ 1 ((row + (-1)) * σ 18 0 + x))) + (σ 1 ((row + 1) * σ 18 0 + x)) ∧ ((0 + (σ 1 ((row + (-1)) * σ 18 0 + x))) + (σ 1 ((row + 1) * σ 18 0 + x))) < 2147483648 ∧ 0 < 2 ∧ 2 < 2147483648 from by omega) dX1_gathersSilt_128 ?_
            refine j_icmp_le J 136 (show rg (σ 1 (row * σ 18 0 + x)) by unfold rg; omega) (show rg (((0 + (σ 1 ((row + (-1)) * σ 18 0 + x))) + (σ 1 ((row + 1) * σ 18 0 + x))) / 2) by unfold rg; omega) dX1_gathersSilt_129 (by decide) (fun (h_49 : (σ 1 (row * σ 18 0 + x)) ≤ (((0 + (σ 1 ((row + (-1)) * σ 18 0 + x))) + (σ 1 ((row + 1) * σ 18 0 + x))) / 2)) => ?_) (fun (h_49 : (((0 + (σ 1 ((row + (-1)) * σ 18 0 + x))) + (σ 1 ((row + 1) * σ 18 0 + x))) / 2) < (σ 1 (row * σ 18 0 + x))) => ?_)
            · refine j_iconst J (0) dX1_gathersSilt_136 ?_
              exact fin _ _ _ _ _ _ dX1_gathersSilt_137 rfl (⟨by first | exact ga_yes (a := ((0 + (σ 1 ((row + (-1)) * σ 18 0 + x))) + (σ 1 ((row + 1) * σ 18 0 + x)))) (b := 2) (by unfold smS; (repeat' split) <;> omega) (by unfold nbS; (repeat' split) <;> omega) (by assumption) (by omega) (by assumption) | exact ga_no (a := ((0 + (σ 1 ((row + (-1)) * σ 18 0 + x))) + (σ 1 ((row + 1) * σ 18 0 + x)))) (b := 2) (by unfold smS; (repeat' split) <;> omega) (by unfold nbS; (repeat' split) <;> omega) (by first | exact Or.inl (by omega) | exact Or.inr (by assumption)), rfl⟩) hw
            · refine j_iconst J (1) dX1_gathersSilt_132 ?_
              refine j_goto J 137 dX1_gathersSilt_133 (by decide) ?_
              exact fin _ _ _ _ _ _ dX1_gathersSilt_137 rfl (⟨by first | exact ga_yes (a := ((0 + (σ 1 ((row + (-1)) * σ 18 0 + x))) + (σ 1 ((row + 1) * σ 18 0 + x)))) (b := 2) (by unfold smS; (repeat' split) <;> omega) (by unfold nbS; (repeat' split) <;> omega) (by assumption) (by omega) (by assumption) | exact ga_no (a := ((0 + (σ 1 ((row + (-1)) * σ 18 0 + x))) + (σ 1 ((row + 1) * σ 18 0 + x)))) (b := 2) (by unfold smS; (repeat' split) <;> omega) (by unfold nbS; (repeat' split) <;> omega) (by first | exact Or.inl (by omega) | exact Or.inr (by assumption)), rfl⟩) hw
          · refine j_iload J dX1_gathersSilt_81 (lv_at hl 1 rfl) ?_
            refine j_aload_n J dX1_gathersSilt_83 rfl (lv_at hl 4 rfl) ?_
            refine xg_1_0 J hw lk_X1_14 dX1_gathersSilt_84 ?_
            refine j_aload_n J dX1_gathersSilt_87 rfl (lv_at hl 4 rfl) ?_
            refine j_iload_n J dX1_gathersSilt_88 rfl (lv_at hl 5 rfl) ?_
            refine j_iload_n J dX1_gathersSilt_89 rfl (lv_at hl 6 rfl) ?_
            refine j_iload J dX1_gathersSilt_90 (lv_at hl 2 rfl) ?_
            refine j_iadd J dX1_gathersSilt_92 ?_
            refine k_X1_number (row := row) (col := x + 1) (σ := σ) hD  J hw hl.1 lk_X1_60 ⟨Nat.le_of_ble_eq_true rfl, Nat.le_of_ble_eq_true rfl⟩ (Nat.le_of_ble_eq_true rfl) dX1_gathersSilt_93 (fun H locs hw => ?_)
            have hcB := cell_in (r := row) (x := x + 1) (C := σ 18 0) (R := σ 18 1) hr.1 hr.2 (by omega) (by omega)
            refine k_X2_get (k := 1) (i := row * σ 18 0 + (x + 1)) (σ := σ) hD (by decide) (show 0 ≤ row * σ 18 0 + (x + 1) ∧ (row * σ 18 0 + (x + 1)) < ((120 : Nat) : Int) from by omega) J hw hl.1 lk_X1_47 ⟨Nat.le_of_ble_eq_true rfl, Nat.le_of_ble_eq_true rfl⟩ (Nat.le_of_ble_eq_true rfl) dX1_gathersSilt_96 (fun H locs hw => ?_)
            have bdB := hB.depth (row * σ 18 0 + (x + 1))
            refine j_iadd J dX1_gathersSilt_99 ?_
            refine j_istore J (lv' := [(4, .int (I (((0 + (σ 1 ((row + (-1)) * σ 18 0 + x))) + (σ 1 ((row + 1) * σ 18 0 + x))) + (σ 1 (row * σ 18 0 + (x + 1)))))), (5, .int (I 2)), (6, .int (I 1)), (3, .int (I (row * σ 18 0 + x))), (0, .ref (ad 1)), (1, .int (I row)), (2, .int (I x))]) hl dX1_gathersSilt_100 (by decide) rfl (fun ls hl => ?_)
            refine j_iinc J (lv' := [(5, .int (I 3)), (4, .int (I (((0 + (σ 1 ((row + (-1)) * σ 18 0 + x))) + (σ 1 ((row + 1) * σ 18 0 + x))) + (σ 1 (row * σ 18 0 + (x + 1)))))), (6, .int (I 1)), (3, .int (I (row * σ 18 0 + x))), (0, .ref (ad 1)), (1, .int (I row)), (2, .int (I x))]) (k := 1) hl dX1_gathersSilt_102 rfl (by decide) rfl (fun ls hl => ?_)
            refine j_iinc J (lv' := [(6, .int (I 3)), (5, .int (I 3)), (4, .int (I (((0 + (σ 1 ((row + (-1)) * σ 18 0 + x))) + (σ 1 ((row + 1) * σ 18 0 + x))) + (σ 1 (row * σ 18 0 + (x + 1)))))), (3, .int (I (row * σ 18 0 + x))), (0, .ref (ad 1)), (1, .int (I row)), (2, .int (I x))]) (k := 2) hl dX1_gathersSilt_105 rfl (by decide) rfl (fun ls hl => ?_)
            refine j_goto J 29 dX1_gathersSilt_108 (by decide) ?_
            refine j_iload J dX1_gathersSilt_29 (lv_at hl 0 rfl) ?_
            refine j_iconst J (1) dX1_gathersSilt_31 ?_
            refine j_icmp_gt J 111 (by unfold rg; omega) (by unfold rg; omega) dX1_gathersSilt_32 (by decide) (fun (h_50 : 1 < 3) => ?_) (fun (h_50 : 3 ≤ 1) => absurd h_50 (by omega))
            refine j_iload J dX1_gathersSilt_111 (lv_at hl 1 rfl) ?_
            refine j_if_le J 136 (by unfold rg; omega) dX1_gathersSilt_113 (by decide) (fun (h_51 : 3 ≤ 0) => absurd h_51 (by omega)) (fun (h_51 : 0 < 3) => ?_)
            refine j_aload_n J dX1_gathersSilt_116 rfl (lv_at hl 4 rfl) ?_
            refine xg_1_0 J hw lk_X1_14 dX1_gathersSilt_117 ?_
            refine j_iload_n J dX1_gathersSilt_120 rfl (lv_at hl 3 rfl) ?_
            refine k_X2_get (k := 1) (i := row * σ 18 0 + x) (σ := σ) hD (by decide) (show 0 ≤ row * σ 18 0 + x ∧ (row * σ 18 0 + x) < ((120 : Nat) : Int) from by omega) J hw hl.1 lk_X1_47 ⟨Nat.le_of_ble_eq_true rfl, Nat.le_of_ble_eq_true rfl⟩ (Nat.le_of_ble_eq_true rfl) dX1_gathersSilt_121 (fun H locs hw => ?_)
            refine j_iload J dX1_gathersSilt_124 (lv_at hl 2 rfl) ?_
            refine j_iload J dX1_gathersSilt_126 (lv_at hl 1 rfl) ?_
            refine j_idiv J (show 0 ≤ ((0 + (σ 1 ((row + (-1)) * σ 18 0 + x))) + (σ 1 ((row + 1) * σ 18 0 + x))) + (σ 1 (row * σ 18 0 + (x + 1))) ∧ (((0 + (σ 1 ((row + (-1)) * σ 18 0 + x))) + (σ 1 ((row + 1) * σ 18 0 + x))) + (σ 1 (row * σ 18 0 + (x + 1)))) < 2147483648 ∧ 0 < 3 ∧ 3 < 2147483648 from by omega) dX1_gathersSilt_128 ?_
            refine j_icmp_le J 136 (show rg (σ 1 (row * σ 18 0 + x)) by unfold rg; omega) (show rg ((((0 + (σ 1 ((row + (-1)) * σ 18 0 + x))) + (σ 1 ((row + 1) * σ 18 0 + x))) + (σ 1 (row * σ 18 0 + (x + 1)))) / 3) by unfold rg; omega) dX1_gathersSilt_129 (by decide) (fun (h_52 : (σ 1 (row * σ 18 0 + x)) ≤ ((((0 + (σ 1 ((row + (-1)) * σ 18 0 + x))) + (σ 1 ((row + 1) * σ 18 0 + x))) + (σ 1 (row * σ 18 0 + (x + 1)))) / 3)) => ?_) (fun (h_52 : ((((0 + (σ 1 ((row + (-1)) * σ 18 0 + x))) + (σ 1 ((row + 1) * σ 18 0 + x))) + (σ 1 (row * σ 18 0 + (x + 1)))) / 3) < (σ 1 (row * σ 18 0 + x))) => ?_)
            · refine j_iconst J (0) dX1_gathersSilt_136 ?_
              exact fin _ _ _ _ _ _ dX1_gathersSilt_137 rfl (⟨by first | exact ga_yes (a := (((0 + (σ 1 ((row + (-1)) * σ 18 0 + x))) + (σ 1 ((row + 1) * σ 18 0 + x))) + (σ 1 (row * σ 18 0 + (x + 1))))) (b := 3) (by unfold smS; (repeat' split) <;> omega) (by unfold nbS; (repeat' split) <;> omega) (by assumption) (by omega) (by assumption) | exact ga_no (a := (((0 + (σ 1 ((row + (-1)) * σ 18 0 + x))) + (σ 1 ((row + 1) * σ 18 0 + x))) + (σ 1 (row * σ 18 0 + (x + 1))))) (b := 3) (by unfold smS; (repeat' split) <;> omega) (by unfold nbS; (repeat' split) <;> omega) (by first | exact Or.inl (by omega) | exact Or.inr (by assumption)), rfl⟩) hw
            · refine j_iconst J (1) dX1_gathersSilt_132 ?_
              refine j_goto J 137 dX1_gathersSilt_133 (by decide) ?_
              exact fin _ _ _ _ _ _ dX1_gathersSilt_137 rfl (⟨by first | exact ga_yes (a := (((0 + (σ 1 ((row + (-1)) * σ 18 0 + x))) + (σ 1 ((row + 1) * σ 18 0 + x))) + (σ 1 (row * σ 18 0 + (x + 1))))) (b := 3) (by unfold smS; (repeat' split) <;> omega) (by unfold nbS; (repeat' split) <;> omega) (by assumption) (by omega) (by assumption) | exact ga_no (a := (((0 + (σ 1 ((row + (-1)) * σ 18 0 + x))) + (σ 1 ((row + 1) * σ 18 0 + x))) + (σ 1 (row * σ 18 0 + (x + 1))))) (b := 3) (by unfold smS; (repeat' split) <;> omega) (by unfold nbS; (repeat' split) <;> omega) (by first | exact Or.inl (by omega) | exact Or.inr (by assumption)), rfl⟩) hw
      · refine j_iload J dX1_gathersSilt_81 (lv_at hl 1 rfl) ?_
        refine j_aload_n J dX1_gathersSilt_83 rfl (lv_at hl 4 rfl) ?_
        refine xg_1_0 J hw lk_X1_14 dX1_gathersSilt_84 ?_
        refine j_aload_n J dX1_gathersSilt_87 rfl (lv_at hl 4 rfl) ?_
        refine j_iload_n J dX1_gathersSilt_88 rfl (lv_at hl 5 rfl) ?_
        refine j_iload_n J dX1_gathersSilt_89 rfl (lv_at hl 6 rfl) ?_
        refine j_iload J dX1_gathersSilt_90 (lv_at hl 2 rfl) ?_
        refine j_iadd J dX1_gathersSilt_92 ?_
        refine k_X1_number (row := row) (col := x + (-1)) (σ := σ) hD  J hw hl.1 lk_X1_60 ⟨Nat.le_of_ble_eq_true rfl, Nat.le_of_ble_eq_true rfl⟩ (Nat.le_of_ble_eq_true rfl) dX1_gathersSilt_93 (fun H locs hw => ?_)
        have hcB := cell_in (r := row) (x := x + (-1)) (C := σ 18 0) (R := σ 18 1) hr.1 hr.2 (by omega) (by omega)
        refine k_X2_get (k := 1) (i := row * σ 18 0 + (x + (-1))) (σ := σ) hD (by decide) (show 0 ≤ row * σ 18 0 + (x + (-1)) ∧ (row * σ 18 0 + (x + (-1))) < ((120 : Nat) : Int) from by omega) J hw hl.1 lk_X1_47 ⟨Nat.le_of_ble_eq_true rfl, Nat.le_of_ble_eq_true rfl⟩ (Nat.le_of_ble_eq_true rfl) dX1_gathersSilt_96 (fun H locs hw => ?_)
        have bdB := hB.depth (row * σ 18 0 + (x + (-1)))
        refine j_iadd J dX1_gathersSilt_99 ?_
        refine j_istore J (lv' := [(4, .int (I ((0 + (σ 1 ((row + (-1)) * σ 18 0 + x))) + (σ 1 (row * σ 18 0 + (x + (-1))))))), (5, .int (I 1)), (6, .int (I (-1))), (3, .int (I (row * σ 18 0 + x))), (0, .ref (ad 1)), (1, .int (I row)), (2, .int (I x))]) hl dX1_gathersSilt_100 (by decide) rfl (fun ls hl => ?_)
        refine j_iinc J (lv' := [(5, .int (I 2)), (4, .int (I ((0 + (σ 1 ((row + (-1)) * σ 18 0 + x))) + (σ 1 (row * σ 18 0 + (x + (-1))))))), (6, .int (I (-1))), (3, .int (I (row * σ 18 0 + x))), (0, .ref (ad 1)), (1, .int (I row)), (2, .int (I x))]) (k := 1) hl dX1_gathersSilt_102 rfl (by decide) rfl (fun ls hl => ?_)
        refine j_iinc J (lv' := [(6, .int (I 1)), (5, .int (I 2)), (4, .int (I ((0 + (σ 1 ((row + (-1)) * σ 18 0 + x))) + (σ 1 (row * σ 18 0 + (x + (-1))))))), (3, .int (I (row * σ 18 0 + x))), (0, .ref (ad 1)), (1, .int (I row)), (2, .int (I x))]) (k := 2) hl dX1_gathersSilt_105 rfl (by decide) rfl (fun ls hl => ?_)
        refine j_goto J 29 dX1_gathersSilt_108 (by decide) ?_
        refine j_iload J dX1_gathersSilt_29 (lv_at hl 0 rfl) ?_
        refine j_iconst J (1) dX1_gathersSilt_31 ?_
        refine j_icmp_gt J 111 (by unfold rg; omega) (by unfold rg; omega) dX1_gathersSilt_32 (by decide) (fun (h_53 : 1 < 1) => absurd h_53 (by omega)) (fun (h_53 : 1 ≤ 1) => ?_)
        refine j_aload_n J dX1_gathersSilt_35 rfl (lv_at hl 4 rfl) ?_
        refine j_iload_n J dX1_gathersSilt_36 rfl (lv_at hl 5 rfl) ?_
        refine j_iload J dX1_gathersSilt_37 (lv_at hl 0 rfl) ?_
        refine j_iadd J dX1_gathersSilt_39 ?_
        refine k_X1_hasRow (row := row + 1) (σ := σ) hD (show Dim σ from hd) (show rg (row + 1) from by unfold rg; omega) J hw hl.1 lk_X1_71 ⟨Nat.le_of_ble_eq_true rfl, Nat.le_of_ble_eq_true rfl⟩ (Nat.le_of_ble_eq_true rfl) dX1_gathersSilt_40 (fun H locs hw => ?_)
        refine j_ifeqB J 70 dX1_gathersSilt_43 (by decide) (fun (h_54 : ¬ (0 ≤ (row + 1) ∧ (row + 1) ≤ σ 18 1 - 1)) => ?_) (fun (h_54 : 0 ≤ (row + 1) ∧ (row + 1) ≤ σ 18 1 - 1) => ?_)
        · refine j_aload_n J dX1_gathersSilt_70 rfl (lv_at hl 4 rfl) ?_
          refine j_iload_n J dX1_gathersSilt_71 rfl (lv_at hl 6 rfl) ?_
          refine j_iload J dX1_gathersSilt_72 (lv_at hl 0 rfl) ?_
          refine j_iadd J dX1_gathersSilt_74 ?_
          refine k_X1_hasColumn (col := x + 1) (σ := σ) hD (show Dim σ from hd) (show rg (x + 1) from by unfold rg; omega) J hw hl.1 lk_X1_75 ⟨Nat.le_of_ble_eq_true rfl, Nat.le_of_ble_eq_true rfl⟩ (Nat.le_of_ble_eq_true rfl) dX1_gathersSilt_75 (fun H locs hw => ?_)
          refine j_ifeqB J 105 dX1_gathersSilt_78 (by decide) (fun (h_55 : ¬ (0 ≤ (x + 1) ∧ (x + 1) ≤ σ 18 0 - 1)) => ?_) (fun (h_55 : 0 ≤ (x + 1) ∧ (x + 1) ≤ σ 18 0 - 1) => ?_)
          · refine j_iinc J (lv' := [(6, .int (I 3)), (5, .int (I 2)), (4, .int (I ((0 + (σ 1 ((row + (-1)) * σ 18 0 + x))) + (σ 1 (row * σ 18 0 + (x + (-1))))))), (3, .int (I (row * σ 18 0 + x))), (0, .ref (ad 1)), (1, .int (I row)), (2, .int (I x))]) (k := 0) hl dX1_gathersSilt_105 rfl (by decide) rfl (fun ls hl => ?_)
            refine j_goto J 29 dX1_gathersSilt_108 (by decide) ?_
            refine j_iload J dX1_gathersSilt_29 (lv_at hl 0 rfl) ?_
            refine j_iconst J (1) dX1_gathersSilt_31 ?_
            refine j_icmp_gt J 111 (by unfold rg; omega) (by unfold rg; omega) dX1_gathersSilt_32 (by decide) (fun (h_56 : 1 < 3) => ?_) (fun (h_56 : 3 ≤ 1) => absurd h_56 (by omega))
            refine j_iload J dX1_gathersSilt_111 (lv_at hl 1 rfl) ?_
            refine j_if_le J 136 (by unfold rg; omega) dX1_gathersSilt_113 (by decide) (fun (h_57 : 2 ≤ 0) => absurd h_57 (by omega)) (fun (h_57 : 0 < 2) => ?_)
            refine j_aload_n J dX1_gathersSilt_116 rfl (lv_at hl 4 rfl) ?_
            refine xg_1_0 J hw lk_X1_14 dX1_gathersSilt_117 ?_
            refine j_iload_n J dX1_gathersSilt_120 rfl (lv_at hl 3 rfl) ?_
            refine k_X2_get (k := 1) (i := row * σ 18 0 + x) (σ := σ) hD (by decide) (show 0 ≤ row * σ 18 0 + x ∧ (row * σ 18 0 + x) < ((120 : Nat) : Int) from by omega) J hw hl.1 lk_X1_47 ⟨Nat.le_of_ble_eq_true rfl, Nat.le_of_ble_eq_true rfl⟩ (Nat.le_of_ble_eq_true rfl) dX1_gathersSilt_121 (fun H locs hw => ?_)
            refine j_iload J dX1_gathersSilt_124 (lv_at hl 2 rfl) ?_
            refine j_iload J dX1_gathersSilt_126 (lv_at hl 1 rfl) ?_
            refine j_idiv J (show 0 ≤ (0 + (σ 1 ((row + (-1)) * σ 18 0 + x))) + (σ 1 (row * σ 18 0 + (x + (-1)))) ∧ ((0 + (σ 1 ((row + (-1)) * σ 18 0 + x))) + (σ 1 (row * σ 18 0 + (x + (-1))))) < 2147483648 ∧ 0 < 2 ∧ 2 < 2147483648 from by omega) dX1_gathersSilt_128 ?_
            refine j_icmp_le J 136 (show rg (σ 1 (row * σ 18 0 + x)) by unfold rg; omega) (show rg (((0 + (σ 1 ((row + (-1)) * σ 18 0 + x))) + (σ 1 (row * σ 18 0 + (x + (-1))))) / 2) by unfold rg; omega) dX1_gathersSilt_129 (by decide) (fun (h_58 : (σ 1 (row * σ 18 0 + x)) ≤ (((0 + (σ 1 ((row + (-1)) * σ 18 0 + x))) + (σ 1 (row * σ 18 0 + (x + (-1))))) / 2)) => ?_) (fun (h_58 : (((0 + (σ 1 ((row + (-1)) * σ 18 0 + x))) + (σ 1 (row * σ 18 0 + (x + (-1))))) / 2) < (σ 1 (row * σ 18 0 + x))) => ?_)
            · refine j_iconst J (0) dX1_gathersSilt_136 ?_
              exact fin _ _ _ _ _ _ dX1_gathersSilt_137 rfl (⟨by first | exact ga_yes (a := ((0 + (σ 1 ((row + (-1)) * σ 18 0 + x))) + (σ 1 (row * σ 18 0 + (x + (-1)))))) (b := 2) (by unfold smS; (repeat' split) <;> omega) (by unfold nbS; (repeat' split) <;> omega) (by assumption) (by omega) (by assumption) | exact ga_no (a := ((0 + (σ 1 ((row + (-1)) * σ 18 0 + x))) + (σ 1 (row * σ 18 0 + (x + (-1)))))) (b := 2) (by unfold smS; (repeat' split) <;> omega) (by unfold nbS; (repeat' split) <;> omega) (by first | exact Or.inl (by omega) | exact Or.inr (by assumption)), rfl⟩) hw
            · refine j_iconst J (1) dX1_gathersSilt_132 ?_
              refine j_goto J 137 dX1_gathersSilt_133 (by decide) ?_
              exact fin _ _ _ _ _ _ dX1_gathersSilt_137 rfl (⟨by first | exact ga_yes (a := ((0 + (σ 1 ((row + (-1)) * σ 18 0 + x))) + (σ 1 (row * σ 18 0 + (x + (-1)))))) (b := 2) (by unfold smS; (repeat' split) <;> omega) (by unfold nbS; (repeat' split) <;> omega) (by assumption) (by omega) (by assumption) | exact ga_no (a := ((0 + (σ 1 ((row + (-1)) * σ 18 0 + x))) + (σ 1 (row * σ 18 0 + (x + (-1)))))) (b := 2) (by unfold smS; (repeat' split) <;> omega) (by unfold nbS; (repeat' split) <;> omega) (by first | exact Or.inl (by omega) | exact Or.inr (by assumption)), rfl⟩) hw
          · refine j_iload J dX1_gathersSilt_81 (lv_at hl 2 rfl) ?_
            refine j_aload_n J dX1_gathersSilt_83 rfl (lv_at hl 4 rfl) ?_
            refine xg_1_0 J hw lk_X1_14 dX1_gathersSilt_84 ?_
            refine j_aload_n J dX1_gathersSilt_87 rfl (lv_at hl 4 rfl) ?_
            refine j_iload_n J dX1_gathersSilt_88 rfl (lv_at hl 5 rfl) ?_
            refine j_iload_n J dX1_gathersSilt_89 rfl (lv_at hl 6 rfl) ?_
            refine j_iload J dX1_gathersSilt_90 (lv_at hl 0 rfl) ?_
            refine j_iadd J dX1_gathersSilt_92 ?_
            refine k_X1_number (row := row) (col := x + 1) (σ := σ) hD  J hw hl.1 lk_X1_60 ⟨Nat.le_of_ble_eq_true rfl, Nat.le_of_ble_eq_true rfl⟩ (Nat.le_of_ble_eq_true rfl) dX1_gathersSilt_93 (fun H locs hw => ?_)
            have hcB := cell_in (r := row) (x := x + 1) (C := σ 18 0) (R := σ 18 1) hr.1 hr.2 (by omega) (by omega)
            refine k_X2_get (k := 1) (i := row * σ 18 0 + (x + 1)) (σ := σ) hD (by decide) (show 0 ≤ row * σ 18 0 + (x + 1) ∧ (row * σ 18 0 + (x + 1)) < ((120 : Nat) : Int) from by omega) J hw hl.1 lk_X1_47 ⟨Nat.le_of_ble_eq_true rfl, Nat.le_of_ble_eq_true rfl⟩ (Nat.le_of_ble_eq_true rfl) dX1_gathersSilt_96 (fun H locs hw => ?_)
            have bdB := hB.depth (row * σ 18 0 + (x + 1))
            refine j_iadd J dX1_gathersSilt_99 ?_
            refine j_istore J (lv' := [(4, .int (I (((0 + (σ 1 ((row + (-1)) * σ 18 0 + x))) + (σ 1 (row * σ 18 0 + (x + (-1))))) + (σ 1 (row * σ 18 0 + (x + 1)))))), (6, .int (I 1)), (5, .int (I 2)), (3, .int (I (row * σ 18 0 + x))), (0, .ref (ad 1)), (1, .int (I row)), (2, .int (I x))]) hl dX1_gathersSilt_100 (by decide) rfl (fun ls hl => ?_)
            refine j_iinc J (lv' := [(5, .int (I 3)), (4, .int (I (((0 + (σ 1 ((row + (-1)) * σ 18 0 + x))) + (σ 1 (row * σ 18 0 + (x + (-1))))) + (σ 1 (row * σ 18 0 + (x + 1)))))), (6, .int (I 1)), (3, .int (I (row * σ 18 0 + x))), (0, .ref (ad 1)), (1, .int (I row)), (2, .int (I x))]) (k := 2) hl dX1_gathersSilt_102 rfl (by decide) rfl (fun ls hl => ?_)
            refine j_iinc J (lv' := [(6, .int (I 3)), (5, .int (I 3)), (4, .int (I (((0 + (σ 1 ((row + (-1)) * σ 18 0 + x))) + (σ 1 (row * σ 18 0 + (x + (-1))))) + (σ 1 (row * σ 18 0 + (x + 1)))))), (3, .int (I (row * σ 18 0 + x))), (0, .ref (ad 1)), (1, .int (I row)), (2, .int (I x))]) (k := 2) hl dX1_gathersSilt_105 rfl (by decide) rfl (fun ls hl => ?_)
            refine j_goto J 29 dX1_gathersSilt_108 (by decide) ?_
            refine j_iload J dX1_gathersSilt_29 (lv_at hl 0 rfl) ?_
            refine j_iconst J (1) dX1_gathersSilt_31 ?_
            refine j_icmp_gt J 111 (by unfold rg; omega) (by unfold rg; omega) dX1_gathersSilt_32 (by decide) (fun (h_59 : 1 < 3) => ?_) (fun (h_59 : 3 ≤ 1) => absurd h_59 (by omega))
            refine j_iload J dX1_gathersSilt_111 (lv_at hl 1 rfl) ?_
            refine j_if_le J 136 (by unfold rg; omega) dX1_gathersSilt_113 (by decide) (fun (h_60 : 3 ≤ 0) => absurd h_60 (by omega)) (fun (h_60 : 0 < 3) => ?_)
            refine j_aload_n J dX1_gathersSilt_116 rfl (lv_at hl 4 rfl) ?_
            refine xg_1_0 J hw lk_X1_14 dX1_gathersSilt_117 ?_
            refine j_iload_n J dX1_gathersSilt_120 rfl (lv_at hl 3 rfl) ?_
            refine k_X2_get (k := 1) (i := row * σ 18 0 + x) (σ := σ) hD (by decide) (show 0 ≤ row * σ 18 0 + x ∧ (row * σ 18 0 + x) < ((120 : Nat) : Int) from by omega) J hw hl.1 lk_X1_47 ⟨Nat.le_of_ble_eq_true rfl, Nat.le_of_ble_eq_true rfl⟩ (Nat.le_of_ble_eq_true rfl) dX1_gathersSilt_121 (fun H locs hw => ?_)
            refine j_iload J dX1_gathersSilt_124 (lv_at hl 2 rfl) ?_
            refine j_iload J dX1_gathersSilt_126 (lv_at hl 1 rfl) ?_
            refine j_idiv J (show 0 ≤ ((0 + (σ 1 ((row + (-1)) * σ 18 0 + x))) + (σ 1 (row * σ 18 0 + (x + (-1))))) + (σ 1 (row * σ 18 0 + (x + 1))) ∧ (((0 + (σ 1 ((row + (-1)) * σ 18 0 + x))) + (σ 1 (row * σ 18 0 + (x + (-1))))) + (σ 1 (row * σ 18 0 + (x + 1)))) < 2147483648 ∧ 0 < 3 ∧ 3 < 2147483648 from by omega) dX1_gathersSilt_128 ?_
            refine j_icmp_le J 136 (show rg (σ 1 (row * σ 18 0 + x)) by unfold rg; omega) (show rg ((((0 + (σ 1 ((row + (-1)) * σ 18 0 + x))) + (σ 1 (row * σ 18 0 + (x + (-1))))) + (σ 1 (row * σ 18 0 + (x + 1)))) / 3) by unfold rg; omega) dX1_gathersSilt_129 (by decide) (fun (h_61 : (σ 1 (row * σ 18 0 + x)) ≤ ((((0 + (σ 1 ((row + (-1)) * σ 18 0 + x))) + (σ 1 (row * σ 18 0 + (x + (-1))))) + (σ 1 (row * σ 18 0 + (x + 1)))) / 3)) => ?_) (fun (h_61 : ((((0 + (σ 1 ((row + (-1)) * σ 18 0 + x))) + (σ 1 (row * σ 18 0 + (x + (-1))))) + (σ 1 (row * σ 18 0 + (x + 1)))) / 3) < (σ 1 (row * σ 18 0 + x))) => ?_)
            · refine j_iconst J (0) dX1_gathersSilt_136 ?_
              exact fin _ _ _ _ _ _ dX1_gathersSilt_137 rfl (⟨by first | exact ga_yes (a := (((0 + (σ 1 ((row + (-1)) * σ 18 0 + x))) + (σ 1 (row * σ 18 0 + (x + (-1))))) + (σ 1 (row * σ 18 0 + (x + 1))))) (b := 3) (by unfold smS; (repeat' split) <;> omega) (by unfold nbS; (repeat' split) <;> omega) (by assumption) (by omega) (by assumption) | exact ga_no (a := (((0 + (σ 1 ((row + (-1)) * σ 18 0 + x))) + (σ 1 (row * σ 18 0 + (x + (-1))))) + (σ 1 (row * σ 18 0 + (x + 1))))) (b := 3) (by unfold smS; (repeat' split) <;> omega) (by unfold nbS; (repeat' split) <;> omega) (by first | exact Or.inl (by omega) | exact Or.inr (by assumption)), rfl⟩) hw
            · refine j_iconst J (1) dX1_gathersSilt_132 ?_
              refine j_goto J 137 dX1_gathersSilt_133 (by decide) ?_
              exact fin _ _ _ _ _ _ dX1_gathersSilt_137 rfl (⟨by first | exact ga_yes (a := (((0 + (σ 1 ((row + (-1)) * σ 18 0 + x))) + (σ 1 (row * σ 18 0 + (x + (-1))))) + (σ 1 (row * σ 18 0 + (x + 1))))) (b := 3) (by unfold smS; (repeat' split) <;> omega) (by unfold nbS; (repeat' split) <;> omega) (by assumption) (by omega) (by assumption) | exact ga_no (a := (((0 + (σ 1 ((row + (-1)) * σ 18 0 + x))) + (σ 1 (row * σ 18 0 + (x + (-1))))) + (σ 1 (row * σ 18 0 + (x + 1))))) (b := 3) (by unfold smS; (repeat' split) <;> omega) (by unfold nbS; (repeat' split) <;> omega) (by first | exact Or.inl (by omega) | exact Or.inr (by assumption)), rfl⟩) hw
        · refine j_iload J dX1_gathersSilt_46 (lv_at hl 2 rfl) ?_
          refine j_aload_n J dX1_gathersSilt_48 rfl (lv_at hl 4 rfl) ?_
          refine xg_1_0 J hw lk_X1_14 dX1_gathersSilt_49 ?_
          refine j_aload_n J dX1_gathersSilt_52 rfl (lv_at hl 4 rfl) ?_
          refine j_iload_n J dX1_gathersSilt_53 rfl (lv_at hl 5 rfl) ?_
          refine j_iload J dX1_gathersSilt_54 (lv_at hl 0 rfl) ?_
          refine j_iadd J dX1_gathersSilt_56 ?_
          refine j_iload_n J dX1_gathersSilt_57 rfl (lv_at hl 6 rfl) ?_
          refine k_X1_number (row := row + 1) (col := x) (σ := σ) hD  J hw hl.1 lk_X1_60 ⟨Nat.le_of_ble_eq_true rfl, Nat.le_of_ble_eq_true rfl⟩ (Nat.le_of_ble_eq_true rfl) dX1_gathersSilt_58 (fun H locs hw => ?_)
          have hcA := cell_in (r := row + 1) (x := x) (C := σ 18 0) (R := σ 18 1) (by omega) (by omega) hx.1 hx.2
          refine k_X2_get (k := 1) (i := (row + 1) * σ 18 0 + x) (σ := σ) hD (by decide) (show 0 ≤ (row + 1) * σ 18 0 + x ∧ ((row + 1) * σ 18 0 + x) < ((120 : Nat) : Int) from by omega) J hw hl.1 lk_X1_47 ⟨Nat.le_of_ble_eq_true rfl, Nat.le_of_ble_eq_true rfl⟩ (Nat.le_of_ble_eq_true rfl) dX1_gathersSilt_61 (fun H locs hw => ?_)
          have bdA := hB.depth ((row + 1) * σ 18 0 + x)
          refine j_iadd J dX1_gathersSilt_64 ?_
          refine j_istore J (lv' := [(4, .int (I (((0 + (σ 1 ((row + (-1)) * σ 18 0 + x))) + (σ 1 (row * σ 18 0 + (x + (-1))))) + (σ 1 ((row + 1) * σ 18 0 + x))))), (6, .int (I 1)), (5, .int (I 2)), (3, .int (I (row * σ 18 0 + x))), (0, .ref (ad 1)), (1, .int (I row)), (2, .int (I x))]) hl dX1_gathersSilt_65 (by decide) rfl (fun ls hl => ?_)
          refine j_iinc J (lv' := [(5, .int (I 3)), (4, .int (I (((0 + (σ 1 ((row + (-1)) * σ 18 0 + x))) + (σ 1 (row * σ 18 0 + (x + (-1))))) + (σ 1 ((row + 1) * σ 18 0 + x))))), (6, .int (I 1)), (3, .int (I (row * σ 18 0 + x))), (0, .ref (ad 1)), (1, .int (I row)), (2, .int (I x))]) (k := 2) hl dX1_gathersSilt_67 rfl (by decide) rfl (fun ls hl => ?_)
          refine j_aload_n J dX1_gathersSilt_70 rfl (lv_at hl 4 rfl) ?_
          refine j_iload_n J dX1_gathersSilt_71 rfl (lv_at hl 6 rfl) ?_
          refine j_iload J dX1_gathersSilt_72 (lv_at hl 2 rfl) ?_
          refine j_iadd J dX1_gathersSilt_74 ?_
          refine k_X1_hasColumn (col := x + 1) (σ := σ) hD (show Dim σ from hd) (show rg (x + 1) from by unfold rg; omega) J hw hl.1 lk_X1_75 ⟨Nat.le_of_ble_eq_true rfl, Nat.le_of_ble_eq_true rfl⟩ (Nat.le_of_ble_eq_true rfl) dX1_gathersSilt_75 (fun H locs hw => ?_)
          refine j_ifeqB J 105 dX1_gathersSilt_78 (by decide) (fun (h_62 : ¬ (0 ≤ (x + 1) ∧ (x + 1) ≤ σ 18 0 - 1)) => ?_) (fun (h_62 : 0 ≤ (x + 1) ∧ (x + 1) ≤ σ 18 0 - 1) => ?_)
          · refine j_iinc J (lv' := [(6, .int (I 3)), (5, .int (I 3)), (4, .int (I (((0 + (σ 1 ((row + (-1)) * σ 18 0 + x))) + (σ 1 (row * σ 18 0 + (x + (-1))))) + (σ 1 ((row + 1) * σ 18 0 + x))))), (3, .int (I (row * σ 18 0 + x))), (0, .ref (ad 1)), (1, .int (I row)), (2, .int (I x))]) (k := 2) hl dX1_gathersSilt_105 rfl (by decide) rfl (fun ls hl => ?_)
            refine j_goto J 29 dX1_gathersSilt_108 (by decide) ?_
            refine j_iload J dX1_gathersSilt_29 (lv_at hl 0 rfl) ?_
            refine j_iconst J (1) dX1_gathersSilt_31 ?_
            refine j_icmp_gt J 111 (by unfold rg; omega) (by unfold rg; omega) dX1_gathersSilt_32 (by decide) (fun (h_63 : 1 < 3) => ?_) (fun (h_63 : 3 ≤ 1) => absurd h_63 (by omega))
            refine j_iload J dX1_gathersSilt_111 (lv_at hl 1 rfl) ?_
            refine j_if_le J 136 (by unfold rg; omega) dX1_gathersSilt_113 (by decide) (fun (h_64 : 3 ≤ 0) => absurd h_64 (by omega)) (fun (h_64 : 0 < 3) => ?_)
            refine j_aload_n J dX1_gathersSilt_116 rfl (lv_at hl 4 rfl) ?_
            refine xg_1_0 J hw lk_X1_14 dX1_gathersSilt_117 ?_
            refine j_iload_n J dX1_gathersSilt_120 rfl (lv_at hl 3 rfl) ?_
            refine k_X2_get (k := 1) (i := row * σ 18 0 + x) (σ := σ) hD (by decide) (show 0 ≤ row * σ 18 0 + x ∧ (row * σ 18 0 + x) < ((120 : Nat) : Int) from by omega) J hw hl.1 lk_X1_47 ⟨Nat.le_of_ble_eq_true rfl, Nat.le_of_ble_eq_true rfl⟩ (Nat.le_of_ble_eq_true rfl) dX1_gathersSilt_121 (fun H locs hw => ?_)
            refine j_iload J dX1_gathersSilt_124 (lv_at hl 2 rfl) ?_
            refine j_iload J dX1_gathersSilt_126 (lv_at hl 1 rfl) ?_
            refine j_idiv J (show 0 ≤ ((0 + (σ 1 ((row + (-1)) * σ 18 0 + x))) + (σ 1 (row * σ 18 0 + (x + (-1))))) + (σ 1 ((row + 1) * σ 18 0 + x)) ∧ (((0 + (σ 1 ((row + (-1)) * σ 18 0 + x))) + (σ 1 (row * σ 18 0 + (x + (-1))))) + (σ 1 ((row + 1) * σ 18 0 + x))) < 2147483648 ∧ 0 < 3 ∧ 3 < 2147483648 from by omega) dX1_gathersSilt_128 ?_
            refine j_icmp_le J 136 (show rg (σ 1 (row * σ 18 0 + x)) by unfold rg; omega) (show rg ((((0 + (σ 1 ((row + (-1)) * σ 18 0 + x))) + (σ 1 (row * σ 18 0 + (x + (-1))))) + (σ 1 ((row + 1) * σ 18 0 + x))) / 3) by unfold rg; omega) dX1_gathersSilt_129 (by decide) (fun (h_65 : (σ 1 (row * σ 18 0 + x)) ≤ ((((0 + (σ 1 ((row + (-1)) * σ 18 0 + x))) + (σ 1 (row * σ 18 0 + (x + (-1))))) + (σ 1 ((row + 1) * σ 18 0 + x))) / 3)) => ?_) (fun (h_65 : ((((0 + (σ 1 ((row + (-1)) * σ 18 0 + x))) + (σ 1 (row * σ 18 0 + (x + (-1))))) + (σ 1 ((row + 1) * σ 18 0 + x))) / 3) < (σ 1 (row * σ 18 0 + x))) => ?_)
            · refine j_iconst J (0) dX1_gathersSilt_136 ?_
              exact fin _ _ _ _ _ _ dX1_gathersSilt_137 rfl (⟨by first | exact ga_yes (a := (((0 + (σ 1 ((row + (-1)) * σ 18 0 + x))) + (σ 1 (row * σ 18 0 + (x + (-1))))) + (σ 1 ((row + 1) * σ 18 0 + x)))) (b := 3) (by unfold smS; (repeat' split) <;> omega) (by unfold nbS; (repeat' split) <;> omega) (by assumption) (by omega) (by assumption) | exact ga_no (a := (((0 + (σ 1 ((row + (-1)) * σ 18 0 + x))) + (σ 1 (row * σ 18 0 + (x + (-1))))) + (σ 1 ((row + 1) * σ 18 0 + x)))) (b := 3) (by unfold smS; (repeat' split) <;> omega) (by unfold nbS; (repeat' split) <;> omega) (by first | exact Or.inl (by omega) | exact Or.inr (by assumption)), rfl⟩) hw
            · refine j_iconst J (1) dX1_gathersSilt_132 ?_
              refine j_goto J 137 dX1_gathersSilt_133 (by decide) ?_
              exact fin _ _ _ _ _ _ dX1_gathersSilt_137 rfl (⟨by first | exact ga_yes (a := (((0 + (σ 1 ((row + (-1)) * σ 18 0 + x))) + (σ 1 (row * σ 18 0 + (x + (-1))))) + (σ 1 ((row + 1) * σ 18 0 + x)))) (b := 3) (by unfold smS; (repeat' split) <;> omega) (by unfold nbS; (repeat' split) <;> omega) (by assumption) (by omega) (by assumption) | exact ga_no (a := (((0 + (σ 1 ((row + (-1)) * σ 18 0 + x))) + (σ 1 (row * σ 18 0 + (x + (-1))))) + (σ 1 ((row + 1) * σ 18 0 + x)))) (b := 3) (by unfold smS; (repeat' split) <;> omega) (by unfold nbS; (repeat' split) <;> omega) (by first | exact Or.inl (by omega) | exact Or.inr (by assumption)), rfl⟩) hw
          · refine j_iload J dX1_gathersSilt_81 (lv_at hl 1 rfl) ?_
            refine j_aload_n J dX1_gathersSilt_83 rfl (lv_at hl 4 rfl) ?_
            refine xg_1_0 J hw lk_X1_14 dX1_gathersSilt_84 ?_
            refine j_aload_n J dX1_gathersSilt_87 rfl (lv_at hl 4 rfl) ?_
            refine j_iload_n J dX1_gathersSilt_88 rfl (lv_at hl 5 rfl) ?_
            refine j_iload_n J dX1_gathersSilt_89 rfl (lv_at hl 6 rfl) ?_
            refine j_iload J dX1_gathersSilt_90 (lv_at hl 2 rfl) ?_
            refine j_iadd J dX1_gathersSilt_92 ?_
            refine k_X1_number (row := row) (col := x + 1) (σ := σ) hD  J hw hl.1 lk_X1_60 ⟨Nat.le_of_ble_eq_true rfl, Nat.le_of_ble_eq_true rfl⟩ (Nat.le_of_ble_eq_true rfl) dX1_gathersSilt_93 (fun H locs hw => ?_)
            have hcB := cell_in (r := row) (x := x + 1) (C := σ 18 0) (R := σ 18 1) hr.1 hr.2 (by omega) (by omega)
            refine k_X2_get (k := 1) (i := row * σ 18 0 + (x + 1)) (σ := σ) hD (by decide) (show 0 ≤ row * σ 18 0 + (x + 1) ∧ (row * σ 18 0 + (x + 1)) < ((120 : Nat) : Int) from by omega) J hw hl.1 lk_X1_47 ⟨Nat.le_of_ble_eq_true rfl, Nat.le_of_ble_eq_true rfl⟩ (Nat.le_of_ble_eq_true rfl) dX1_gathersSilt_96 (fun H locs hw => ?_)
            have bdB := hB.depth (row * σ 18 0 + (x + 1))
            refine j_iadd J dX1_gathersSilt_99 ?_
            refine j_istore J (lv' := [(4, .int (I ((((0 + (σ 1 ((row + (-1)) * σ 18 0 + x))) + (σ 1 (row * σ 18 0 + (x + (-1))))) + (σ 1 ((row + 1) * σ 18 0 + x))) + (σ 1 (row * σ 18 0 + (x + 1)))))), (5, .int (I 3)), (6, .int (I 1)), (3, .int (I (row * σ 18 0 + x))), (0, .ref (ad 1)), (1, .int (I row)), (2, .int (I x))]) hl dX1_gathersSilt_100 (by decide) rfl (fun ls hl => ?_)
            refine j_iinc J (lv' := [(5, .int (I 4)), (4, .int (I ((((0 + (σ 1 ((row + (-1)) * σ 18 0 + x))) + (σ 1 (row * σ 18 0 + (x + (-1))))) + (σ 1 ((row + 1) * σ 18 0 + x))) + (σ 1 (row * σ 18 0 + (x + 1)))))), (6, .int (I 1)), (3, .int (I (row * σ 18 0 + x))), (0, .ref (ad 1)), (1, .int (I row)), (2, .int (I x))]) (k := 1) hl dX1_gathersSilt_102 rfl (by decide) rfl (fun ls hl => ?_)
            refine j_iinc J (lv' := [(6, .int (I 3)), (5, .int (I 4)), (4, .int (I ((((0 + (σ 1 ((row + (-1)) * σ 18 0 + x))) + (σ 1 (row * σ 18 0 + (x + (-1))))) + (σ 1 ((row + 1) * σ 18 0 + x))) + (σ 1 (row * σ 18 0 + (x + 1)))))), (3, .int (I (row * σ 18 0 + x))), (0, .ref (ad 1)), (1, .int (I row)), (2, .int (I x))]) (k := 2) hl dX1_gathersSilt_105 rfl (by decide) rfl (fun ls hl => ?_)
            refine j_goto J 29 dX1_gathersSilt_108 (by decide) ?_
            refine j_iload J dX1_gathersSilt_29 (lv_at hl 0 rfl) ?_
            refine j_iconst J (1) dX1_gathersSilt_31 ?_
            refine j_icmp_gt J 111 (by unfold rg; omega) (by unfold rg; omega) dX1_gathersSilt_32 (by decide) (fun (h_66 : 1 < 3) => ?_) (fun (h_66 : 3 ≤ 1) => absurd h_66 (by omega))
            refine j_iload J dX1_gathersSilt_111 (lv_at hl 1 rfl) ?_
            refine j_if_le J 136 (by unfold rg; omega) dX1_gathersSilt_113 (by decide) (fun (h_67 : 4 ≤ 0) => absurd h_67 (by omega)) (fun (h_67 : 0 < 4) => ?_)
            refine j_aload_n J dX1_gathersSilt_116 rfl (lv_at hl 4 rfl) ?_
            refine xg_1_0 J hw lk_X1_14 dX1_gathersSilt_117 ?_
            refine j_iload_n J dX1_gathersSilt_120 rfl (lv_at hl 3 rfl) ?_
            refine k_X2_get (k := 1) (i := row * σ 18 0 + x) (σ := σ) hD (by decide) (show 0 ≤ row * σ 18 0 + x ∧ (row * σ 18 0 + x) < ((120 : Nat) : Int) from by omega) J hw hl.1 lk_X1_47 ⟨Nat.le_of_ble_eq_true rfl, Nat.le_of_ble_eq_true rfl⟩ (Nat.le_of_ble_eq_true rfl) dX1_gathersSilt_121 (fun H locs hw => ?_)
            refine j_iload J dX1_gathersSilt_124 (lv_at hl 2 rfl) ?_
            refine j_iload J dX1_gathersSilt_126 (lv_at hl 1 rfl) ?_
            refine j_idiv J (show 0 ≤ (((0 + (σ 1 ((row + (-1)) * σ 18 0 + x))) + (σ 1 (row * σ 18 0 + (x + (-1))))) + (σ 1 ((row + 1) * σ 18 0 + x))) + (σ 1 (row * σ 18 0 + (x + 1))) ∧ ((((0 + (σ 1 ((row + (-1)) * σ 18 0 + x))) + (σ 1 (row * σ 18 0 + (x + (-1))))) + (σ 1 ((row + 1) * σ 18 0 + x))) + (σ 1 (row * σ 18 0 + (x + 1)))) < 2147483648 ∧ 0 < 4 ∧ 4 < 2147483648 from by omega) dX1_gathersSilt_128 ?_
            refine j_icmp_le J 136 (show rg (σ 1 (row * σ 18 0 + x)) by unfold rg; omega) (show rg (((((0 + (σ 1 ((row + (-1)) * σ 18 0 + x))) + (σ 1 (row * σ 18 0 + (x + (-1))))) + (σ 1 ((row + 1) * σ 18 0 + x))) + (σ 1 (row * σ 18 0 + (x + 1)))) / 4) by unfold rg; omega) dX1_gathersSilt_129 (by decide) (fun (h_68 : (σ 1 (row * σ 18 0 + x)) ≤ (((((0 + (σ 1 ((row + (-1)) * σ 18 0 + x))) + (σ 1 (row * σ 18 0 + (x + (-1))))) + (σ 1 ((row + 1) * σ 18 0 + x))) + (σ 1 (row * σ 18 0 + (x + 1)))) / 4)) => ?_) (fun (h_68 : (((((0 + (σ 1 ((row + (-1)) * σ 18 0 + x))) + (σ 1 (row * σ 18 0 + (x + (-1))))) + (σ 1 ((row + 1) * σ 18 0 + x))) + (σ 1 (row * σ 18 0 + (x + 1)))) / 4) < (σ 1 (row * σ 18 0 + x))) => ?_)
            · refine j_iconst J (0) dX1_gathersSilt_136 ?_
              exact fin _ _ _ _ _ _ dX1_gathersSilt_137 rfl (⟨by first | exact ga_yes (a := ((((0 + (σ 1 ((row + (-1)) * σ 18 0 + x))) + (σ 1 (row * σ 18 0 + (x + (-1))))) + (σ 1 ((row + 1) * σ 18 0 + x))) + (σ 1 (row * σ 18 0 + (x + 1))))) (b := 4) (by unfold smS; (repeat' split) <;> omega) (by unfold nbS; (repeat' split) <;> omega) (by assumption) (by omega) (by assumption) | exact ga_no (a := ((((0 + (σ 1 ((row + (-1)) * σ 18 0 + x))) + (σ 1 (row * σ 18 0 + (x + (-1))))) + (σ 1 ((row + 1) * σ 18 0 + x))) + (σ 1 (row * σ 18 0 + (x + 1))))) (b := 4) (by unfold smS; (repeat' split) <;> omega) (by unfold nbS; (repeat' split) <;> omega) (by first | exact Or.inl (by omega) | exact Or.inr (by assumption)), rfl⟩) hw
            · refine j_iconst J (1) dX1_gathersSilt_132 ?_
              refine j_goto J 137 dX1_gathersSilt_133 (by decide) ?_
              exact fin _ _ _ _ _ _ dX1_gathersSilt_137 rfl (⟨by first | exact ga_yes (a := ((((0 + (σ 1 ((row + (-1)) * σ 18 0 + x))) + (σ 1 (row * σ 18 0 + (x + (-1))))) + (σ 1 ((row + 1) * σ 18 0 + x))) + (σ 1 (row * σ 18 0 + (x + 1))))) (b := 4) (by unfold smS; (repeat' split) <;> omega) (by unfold nbS; (repeat' split) <;> omega) (by assumption) (by omega) (by assumption) | exact ga_no (a := ((((0 + (σ 1 ((row + (-1)) * σ 18 0 + x))) + (σ 1 (row * σ 18 0 + (x + (-1))))) + (σ 1 ((row + 1) * σ 18 0 + x))) + (σ 1 (row * σ 18 0 + (x + 1))))) (b := 4) (by unfold smS; (repeat' split) <;> omega) (by unfold nbS; (repeat' split) <;> omega) (by first | exact Or.inl (by omega) | exact Or.inr (by assumption)), rfl⟩) hw
  · refine j_iconst J (0) dX1_gathersSilt_18 ?_
    exact fin _ _ _ _ _ _ dX1_gathersSilt_19 rfl (⟨(if_neg (fun z => z.1 (by assumption))).symm, rfl⟩) hw
theorem k_X1_gathersSilt {p : Program} {l : Launch} {e : Env} {R : Room} {s : State} {m : MethodId} {args : Array Value} {below : List Frame} {meth : Method} {c : Code} {H : Heap} {locs : List Loc} {Q : State → Prop} {cc : ByteArray} {pc : Nat} {ls : Array Slot} {rest : List Value} {nL : Nat} {own : String} {D : va_G} {σ : St} {cI cZ : ClassId} {ad : Nat → Nat} {index : Nat} {row x : Int} (hD : ∀ τ, va_D (AD ad 45) (wsX cI ad τ)) (hB : Bd σ) (hr : 0 ≤ row ∧ row < σ 18 1) (hx : 0 ≤ x ∧ x < σ 18 0) (J : Jx p m c cc nL s args own D [(cI, .int), (cZ, .boolean)] (AD ad 45) (wsX cI ad)) (hw : jW D (AD ad 45) s.heap (wsX cI ad σ) H locs) (hsz : ls.size = nL) (hlk : Cond.methodLink own index yX1_gathersSilt ∈ TBw) (hR : 3 ≤ R.frames ∧ 69 ≤ R.locals) (hroom : (rest.map fun v => v.category).sum ≤ 8) (hdg : decode cc pc = .ok (.invokevirtual index, 3)) (kk : ∀ (H1 : Heap) (locs1 : List Loc), jW D (AD ad 45) s.heap (wsX cI ad σ) H1 locs1 → W p l e R s m args below meth c H1 locs1 0 0 Q (F0 m (pc + 3) ls (.int (I (if gaS σ row x then 1 else 0)) :: rest))) : W p l e R s m args below meth c H locs 0 0 Q (F0 m pc ls (.int (I x) :: .int (I row) :: .ref (ad 1) :: rest)) := 
  j_callVi J hw (c_X1_gathersSilt  hD hB hr hx) hlk in_X1_gathersSilt se_X1_gathersSilt ini_X1 co_X1_gathersSilt (n := 2) (by decide +kernel) ⟨rfl, rfl, hR.1, hR.2⟩ (j := 1) (ci := 1) rfl rfl rfl rfl hroom hsz ⟨Nat.zero_le _, Nat.zero_le _⟩ rfl hdg (fun r τ H1 locs1 hp hw1 => by obtain ⟨rfl, rfl⟩ := hp; exact kk H1 locs1 hw1)
def rm_X1_siltUp : Room := { frames := 3, cells := 0, slots := 0, locals := 69 }
set_option maxHeartbeats 4000000 in
set_option maxRecDepth 100000 in
theorem c_X1_siltUp {l : Launch} {D : va_G} {cI cZ : ClassId} {ad : Nat → Nat} {σ : St}  (hD : ∀ τ, va_D (AD ad 45) (wsX cI ad τ)) (hB : Bd σ) : JMv l yX1_siltUp cX1_siltUp 3 rm_X1_siltUp D [(cI, .int), (cZ, .boolean)] (AD ad 45) (wsX cI ad) [.ref (ad 1)] σ (fun τ => Eqp τ (silS σ (σ 18 0 * σ 18 1)) ∧ KS σ τ) := by
  refine JMv.of RX1 (by decide +kernel) rfl (Nat.le_of_ble_eq_true rfl) hD ?_
  intro p e s m args below meth c Q J fin H ls hw hl
  generalize ([] : List Loc) = locs at hw ⊢
  have hl : lv_has ls 3 [(0, .ref (ad 1))] := hl
  have hd : Dim _ := hB.dim
  have hd1 := hd.1; have hd2 := hd.2.1; have hd3 := hd.2.2.1; have hd4 := hd.2.2.2; have hm := hd.mul
  refine j_iconst J (0) dX1_siltUp_0 ?_
  refine j_istore_n J (lv' := [(1, .int (I 0)), (0, .ref (ad 1))]) hl dX1_siltUp_1 rfl (by decide) rfl (fun ls hl => ?_)
  have L2 : ∀ n : Nat, ∀ (τ : St) (row : Int), (0 ≤ row ∧ row ≤ σ 18 1) → (SlI σ (row * σ 18 0) τ) → (KS σ τ) → ((σ 18 1 - row).toNat) < n → ∀ (H : Heap) (locs : List Loc) (ls : Array Slot), jW D (AD ad 45) s.heap (wsX cI ad τ) H locs → lv_has ls 3 [(1, .int (I row)), (0, .ref (ad 1))] → W p l e rm_X1_siltUp s m args below meth c H locs 0 0 Q (F0 m 2 ls []) := by
    intro n
    induction n with
    | zero =>
      intro τ row hi0 hS0 hK0 hm H locs ls hw hl
      exact absurd hm (Nat.not_lt_zero _)
    | succ n ih =>
      intro τ row hi0 hS0 hK0 hm H locs ls hw hl
      have ih2 := ih
      have d0 : τ 18 0 = σ 18 0 := hS0.1 18 0 (pub_s (by decide))
      have d1 : τ 18 1 = σ 18 1 := hS0.1 18 1 (pub_s (by decide))
      refine j_iload_n J dX1_siltUp_2 rfl (lv_at hl 0 rfl) ?_
      refine j_aload_n J dX1_siltUp_3 rfl (lv_at hl 1 rfl) ?_
      refine xg_1_4 J hw lk_X1_30 dX1_siltUp_4 ?_
      refine j_icmp_ge J 60 (show rg row by unfold rg; omega) (show rg (τ 18 1) by unfold rg; omega) dX1_siltUp_7 (by decide) (fun (h_1 : (τ 18 1) ≤ row) => ?_) (fun (h_1 : row < (τ 18 1)) => ?_)
      · refine j_iconst J (0) dX1_siltUp_60 ?_
        refine j_istore_n J (lv' := [(1, .int (I 0)), (0, .ref (ad 1))]) hl dX1_siltUp_61 rfl (by decide) rfl (fun ls hl => ?_)
        have L62 : ∀ n : Nat, ∀ (τ : St) (i : Int), (0 ≤ i ∧ i ≤ σ 18 0 * σ 18 1) → (S2I σ i τ) → (KS σ τ) → ((σ 18 0 * σ 18 1 - i).toNat) < n → ∀ (H : Heap) (locs : List Loc) (ls : Array Slot), jW D (AD ad 45) s.heap (wsX cI ad τ) H locs → lv_has ls 3 [(1, .int (I i)), (0, .ref (ad 1))] → W p l e rm_X1_siltUp s m args below meth c H locs 0 0 Q (F0 m 62 ls []) := by
          intro n
          induction n with
          | zero =>
            intro τ i hi1 h2 hK hm H locs ls hw hl
            exact absurd hm (Nat.not_lt_zero _)
          | succ n ih =>
            intro τ i hi1 h2 hK hm H locs ls hw hl
            have ih62 := ih
            have d0 : τ 18 0 = σ 18 0 := (s2_at h2).2.1
            have d1 : τ 18 1 = σ 18 1 := (s2_at h2).2.2
            have d01 : τ 18 0 * τ 18 1 = σ 18 0 * σ 18 1 := by rw [d0, d1]
            refine j_iload_n J dX1_siltUp_62 rfl (lv_at hl 0 rfl) ?_
            refine j_aload_n J dX1_siltUp_63 rfl (lv_at hl 1 rfl) ?_
            refine k_X1_size (σ := τ) hD  J hw hl.1 lk_X1_39 ⟨Nat.le_of_ble_eq_true rfl, Nat.le_of_ble_eq_true rfl⟩ (Nat.le_of_ble_eq_true rfl) dX1_siltUp_64 (fun H locs hw => ?_)
            refine j_icmp_ge J 106 (show rg i by unfold rg; omega) (show rg (τ 18 0 * τ 18 1) by unfold rg; omega) dX1_siltUp_67 (by decide) (fun (h_2 : (τ 18 0 * τ 18 1) ≤ i) => ?_) (fun (h_2 : i < (τ 18 0 * τ 18 1)) => ?_)
            · exact fin _ _ _ _ _ dX1_siltUp_106 (by have e9 : i = σ 18 0 * σ 18 1 := (by omega); rw [e9] at h2; exact ⟨h2.1, hK⟩) hw
            · have e1 := (s2_at h2).1; have e3 := h2.2 i hi1.1 (by omega); have b1 := hB.depth i; have b3 := slS_rng (σ := σ) (c := i)
              refine j_aload_n J dX1_siltUp_70 rfl (lv_at hl 1 rfl) ?_
              refine j_iload_n J dX1_siltUp_71 rfl (lv_at hl 0 rfl) ?_
              refine j_aload_n J dX1_siltUp_72 rfl (lv_at hl 1 rfl) ?_
              refine xg_1_2 J hw lk_X1_23 dX1_siltUp_73 ?_
              refine j_iload_n J dX1_siltUp_76 rfl (lv_at hl 0 rfl) ?_
              refine k_X2_get (k := 3) (i := i) (σ := τ) hD (by decide) (show 0 ≤ i ∧ i < ((120 : Nat) : Int) from by omega) J hw hl.1 lk_X1_47 ⟨Nat.le_of_ble_eq_true rfl, Nat.le_of_ble_eq_true rfl⟩ (Nat.le_of_ble_eq_true rfl) dX1_siltUp_77 (fun H locs hw => ?_)
              refine k_X1_raise (cell := i) (by1 := τ 3 i) (σ := τ) hD (show 0 ≤ i ∧ i < 120 from by omega) (show 0 ≤ (τ 3 i) ∧ (τ 3 i) ≤ 1000000 from by omega) (show 0 ≤ τ 1 i ∧ τ 1 i ≤ 400 from by omega) J hw hl.1 lk_X1_67 ⟨Nat.le_of_ble_eq_true rfl, Nat.le_of_ble_eq_true rfl⟩ (Nat.le_of_ble_eq_true rfl) dX1_siltUp_80 (fun H locs hw => ?_)
              refine j_aload_n J dX1_siltUp_83 rfl (lv_at hl 1 rfl) ?_
              refine j_dup J dX1_siltUp_84 rfl ?_
              refine xg_1_5 J hw lk_X1_33 dX1_siltUp_85 ?_
              refine j_aload_n J dX1_siltUp_88 rfl (lv_at hl 1 rfl) ?_
              refine xg_1_2 J hw lk_X1_23 dX1_siltUp_89 ?_
              refine j_iload_n J dX1_siltUp_92 rfl (lv_at hl 0 rfl) ?_
              refine k_X2_get (k := 3) (i := i) (σ := st τ 1 i (max 0 (τ 1 i - (τ 3 i)))) hD (by decide) (show 0 ≤ i ∧ i < ((120 : Nat) : Int) from by omega) J hw hl.1 lk_X1_47 ⟨Nat.le_of_ble_eq_true rfl, Nat.le_of_ble_eq_true rfl⟩ (Nat.le_of_ble_eq_true rfl) dX1_siltUp_93 (fun H locs hw => ?_)
              refine j_iadd J dX1_siltUp_96 ?_
              refine xs_1_5 J hw lk_X1_33 dX1_siltUp_97 (fun H locs hw => ?_)
              refine j_iinc J (lv' := [(1, .int (I (i + 1))), (0, .ref (ad 1))]) (k := 0) hl dX1_siltUp_100 rfl (by decide) rfl (fun ls hl => ?_)
              refine j_goto J 62 dX1_siltUp_103 (by decide) ?_
              exact ih62 (st (st τ 1 i (max 0 (τ 1 i - (τ 3 i)))) 18 2 ((τ 18 2) + (τ 3 i))) (i + 1) (by omega) (s2_step h2 hi1.1 (by omega)) ((hK.st (Or.inl (by decide))).st (Or.inr (by decide))) (by omega) _ _ _ hw (lv_sub hl [0, 1] rfl)
        exact L62 _ τ 0 (by omega) (s2_0 (by rw [Int.mul_comm, show σ 18 1 = row by omega]; exact hS0)) (hK0) (Nat.lt_succ_self _) _ _ _ hw (lv_sub hl [0, 1] rfl)
      · refine j_iconst J (0) dX1_siltUp_10 ?_
        refine j_istore_n J (lv' := [(2, .int (I 0)), (1, .int (I row)), (0, .ref (ad 1))]) hl dX1_siltUp_11 rfl (by decide) rfl (fun ls hl => ?_)
        have L12 : ∀ n : Nat, ∀ (τ : St) (x : Int), (0 ≤ x ∧ x ≤ σ 18 0) → (SlI σ (row * σ 18 0 + x) τ) → (KS σ τ) → ((σ 18 0 - x).toNat) < n → ∀ (H : Heap) (locs : List Loc) (ls : Array Slot), jW D (AD ad 45) s.heap (wsX cI ad τ) H locs → lv_has ls 3 [(2, .int (I x)), (1, .int (I row)), (0, .ref (ad 1))] → W p l e rm_X1_siltUp s m args below meth c H locs 0 0 Q (F0 m 12 ls []) := by
          intro n
          induction n with
          | zero =>
            intro τ x hx0 hS hK hm H locs ls hw hl
            exact absurd hm (Nat.not_lt_zero _)
          | succ n ih =>
            intro τ x hx0 hS hK hm H locs ls hw hl
            have ih12 := ih
            have d0 : τ 18 0 = σ 18 0 := hS.1 18 0 (pub_s (by decide))
            have d1 : τ 18 1 = σ 18 1 := hS.1 18 1 (pub_s (by decide))
            have hBt := hB.eqp hS.1
            refine j_iload_n J dX1_siltUp_12 rfl (lv_at hl 0 rfl) ?_
            refine j_aload_n J dX1_siltUp_13 rfl (lv_at hl 2 rfl) ?_
            refine xg_1_3 J hw lk_X1_26 dX1_siltUp_14 ?_
            refine j_icmp_ge J 54 (show rg x by unfold rg; omega) (show rg (τ 18 0) by unfold rg; omega) dX1_siltUp_17 (by decide) (fun (h_3 : (τ 18 0) ≤ x) => ?_) (fun (h_3 : x < (τ 18 0)) => ?_)
            · refine j_iinc J (lv' := [(1, .int (I (row + 1))), (2, .int (I x)), (0, .ref (ad 1))]) (k := 1) hl dX1_siltUp_54 rfl (by decide) rfl (fun ls hl => ?_)
              refine j_goto J 2 dX1_siltUp_57 (by decide) ?_
              exact ih2 τ (row + 1) (by omega) (by rw [show (row + 1) * σ 18 0 = row * σ 18 0 + x by rw [Int.add_mul, Int.one_mul, show x = σ 18 0 by omega]]; exact hS) (hK) (by omega) _ _ _ hw (lv_sub hl [0, 2] rfl)
            · have hci := cell_in hi0.1 (show row < σ 18 1 by omega) hx0.1 (show x < σ 18 0 by omega)
              refine j_aload_n J dX1_siltUp_20 rfl (lv_at hl 2 rfl) ?_
              refine xg_1_2 J hw lk_X1_23 dX1_siltUp_21 ?_
              refine j_aload_n J dX1_siltUp_24 rfl (lv_at hl 2 rfl) ?_
              refine j_iload_n J dX1_siltUp_25 rfl (lv_at hl 1 rfl) ?_
              refine j_iload_n J dX1_siltUp_26 rfl (lv_at hl 0 rfl) ?_
              refine k_X1_number (row := row) (col := x) (σ := τ) hD  J hw hl.1 lk_X1_60 ⟨Nat.le_of_ble_eq_true rfl, Nat.le_of_ble_eq_true rfl⟩ (Nat.le_of_ble_eq_true rfl) dX1_siltUp_27 (fun H locs hw => ?_)
              rw [d0]
              refine j_aload_n J dX1_siltUp_30 rfl (lv_at hl 2 rfl) ?_
              refine j_iload_n J dX1_siltUp_31 rfl (lv_at hl 1 rfl) ?_
              refine j_iload_n J dX1_siltUp_32 rfl (lv_at hl 0 rfl) ?_
              refine k_X1_gathersSilt (row := row) (x := x) (σ := τ) hD (show Bd τ from hBt) (show 0 ≤ row ∧ row < τ 18 1 from by omega) (show 0 ≤ x ∧ x < τ 18 0 from by omega) J hw hl.1 lk_X1_63 ⟨Nat.le_of_ble_eq_true rfl, Nat.le_of_ble_eq_true rfl⟩ (Nat.le_of_ble_eq_true rfl) dX1_siltUp_33 (fun H locs hw => ?_)
              refine j_ifeqB J 43 dX1_siltUp_36 (by decide) (fun (h_4 : ¬ (gaS τ row x)) => ?_) (fun (h_4 : gaS τ row x) => ?_)
              · refine j_iconst J (0) dX1_siltUp_43 ?_
                refine k_X2_put (k := 3) (i := row * σ 18 0 + x) (v := 0) (σ := τ) hD (by decide) (show 0 ≤ row * σ 18 0 + x ∧ (row * σ 18 0 + x) < ((120 : Nat) : Int) from by omega) J hw hl.1 lk_X1_57 ⟨Nat.le_of_ble_eq_true rfl, Nat.le_of_ble_eq_true rfl⟩ (Nat.le_of_ble_eq_true rfl) dX1_siltUp_44 (fun H locs hw => ?_)
                refine j_pop J dX1_siltUp_47 rfl ?_
                refine j_iinc J (lv' := [(2, .int (I (x + 1))), (1, .int (I row)), (0, .ref (ad 1))]) (k := 0) hl dX1_siltUp_48 rfl (by decide) rfl (fun ls hl => ?_)
                refine j_goto J 12 dX1_siltUp_51 (by decide) ?_
                exact ih12 (st τ 3 (row * σ 18 0 + x) 0) (x + 1) (by omega) (by rw [show row * σ 18 0 + (x + 1) = row * σ 18 0 + x + 1 by omega]; exact sl_step hx0.1 (by omega) hS (by first | exact (if_pos ((gaS_eqp hS.1).mp (by assumption))).symm | exact (if_neg (fun z => absurd ((gaS_eqp hS.1).mpr z) (by assumption))).symm)) (hK.st (Or.inl (by decide))) (by omega) _ _ _ hw (lv_sub hl [0, 1, 2] rfl)
              · refine j_iconst J (1) dX1_siltUp_39 ?_
                refine j_goto J 44 dX1_siltUp_40 (by decide) ?_
                refine k_X2_put (k := 3) (i := row * σ 18 0 + x) (v := 1) (σ := τ) hD (by decide) (show 0 ≤ row * σ 18 0 + x ∧ (row * σ 18 0 + x) < ((120 : Nat) : Int) from by omega) J hw hl.1 lk_X1_57 ⟨Nat.le_of_ble_eq_true rfl, Nat.le_of_ble_eq_true rfl⟩ (Nat.le_of_ble_eq_true rfl) dX1_siltUp_44 (fun H locs hw => ?_)
                refine j_pop J dX1_siltUp_47 rfl ?_
                refine j_iinc J (lv' := [(2, .int (I (x + 1))), (1, .int (I row)), (0, .ref (ad 1))]) (k := 0) hl dX1_siltUp_48 rfl (by decide) rfl (fun ls hl => ?_)
                refine j_goto J 12 dX1_siltUp_51 (by decide) ?_
                exact ih12 (st τ 3 (row * σ 18 0 + x) 1) (x + 1) (by omega) (by rw [show row * σ 18 0 + (x + 1) = row * σ 18 0 + x + 1 by omega]; exact sl_step hx0.1 (by omega) hS (by first | exact (if_pos ((gaS_eqp hS.1).mp (by assumption))).symm | exact (if_neg (fun z => absurd ((gaS_eqp hS.1).mpr z) (by assumption))).symm)) (hK.st (Or.inl (by decide))) (by omega) _ _ _ hw (lv_sub hl [0, 1, 2] rfl)
        exact L12 _ τ 0 (by omega) (by rw [Int.add_zero]; exact hS0) (hK0) (Nat.lt_succ_self _) _ _ _ hw (lv_sub hl [0, 1, 2] rfl)
  exact L2 _ σ 0 (by omega) (by rw [Int.zero_mul]; exact ⟨Eqp.rf, fun j h0 hj => absurd hj (by omega)⟩) (fun _ _ => rfl) (Nat.lt_succ_self _) _ _ _ hw (lv_sub hl [0, 1] rfl)
theorem k_X1_siltUp {p : Program} {l : Launch} {e : Env} {R : Room} {s : State} {m : MethodId} {args : Array Value} {below : List Frame} {meth : Method} {c : Code} {H : Heap} {locs : List Loc} {Q : State → Prop} {cc : ByteArray} {pc : Nat} {ls : Array Slot} {rest : List Value} {nL : Nat} {own : String} {D : va_G} {σ : St} {cI cZ : ClassId} {ad : Nat → Nat} {index : Nat}  (hD : ∀ τ, va_D (AD ad 45) (wsX cI ad τ)) (hB : Bd σ) (J : Jx p m c cc nL s args own D [(cI, .int), (cZ, .boolean)] (AD ad 45) (wsX cI ad)) (hw : jW D (AD ad 45) s.heap (wsX cI ad σ) H locs) (hsz : ls.size = nL) (hlk : Cond.methodLink own index yX1_siltUp ∈ TBw) (hR : 4 ≤ R.frames ∧ 91 ≤ R.locals) (hroom : (rest.map fun v => v.category).sum ≤ 8) (hdg : decode cc pc = .ok (.invokevirtual index, 3)) (kk : ∀ (τ : St) (H1 : Heap) (locs1 : List Loc), (fun τ => Eqp τ (silS σ (σ 18 0 * σ 18 1)) ∧ KS σ τ) τ → jW D (AD ad 45) s.heap (wsX cI ad τ) H1 locs1 → W p l e R s m args below meth c H1 locs1 0 0 Q (F0 m (pc + 3) ls rest)) : W p l e R s m args below meth c H locs 0 0 Q (F0 m pc ls (.ref (ad 1) :: rest)) := 
  j_callVv J hw (c_X1_siltUp  hD hB) hlk in_X1_siltUp se_X1_siltUp ini_X1 co_X1_siltUp (n := 0) (by decide +kernel) ⟨rfl, rfl, hR.1, hR.2⟩ (j := 1) (ci := 1) rfl rfl rfl rfl hroom hsz ⟨Nat.zero_le _, Nat.zero_le _⟩ rfl hdg kk
