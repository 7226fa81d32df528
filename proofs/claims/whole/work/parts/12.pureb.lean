/-! an hour keeps the bounds; what a state that differs in scratch alone answers -/
theorem sumI_add {f g : Int → Int} {n : Int} : sumI (fun c => f c + g c) n = sumI f n + sumI g n := by
  unfold sumI
  generalize n.toNat = k
  induction k with
  | zero => rfl
  | succ k ih =>
    show sumN (fun c => f c + g c) k + (f k + g k) = sumN f k + f k + (sumN g k + g k)
    rw [ih]; omega
theorem sum_pt {f : Int → Int} {j n : Int} (hn : 0 ≤ n) : sumI (fun c => if j = c then f c else 0) n = if 0 ≤ j ∧ j < n then f j else 0 := by
  obtain ⟨k, rfl⟩ := Int.eq_ofNat_of_zero_le hn
  induction k with
  | zero => rw [if_neg (by omega)]; rfl
  | succ k ih =>
    have h1 := sumI_step (f := fun c => if j = c then f c else 0) (n := (k : Int)) (by omega)
    rw [show ((k + 1 : Nat) : Int) = (k : Int) + 1 by omega, h1, ih (by omega)]
    by_cases e : j = (k : Int)
    · subst e
      rw [if_neg (by omega), if_pos rfl, if_pos (by omega)]; omega
    · rw [if_neg e]
      by_cases q : 0 ≤ j ∧ j < (k : Int)
      · rw [if_pos q, if_pos (by omega)]; omega
      · rw [if_neg q, if_neg (by omega)]; omega
theorem nxS_eq {σ : St} {n j : Int} (hn : 0 ≤ n) (h0 : 0 ≤ j) (h : j < n) : nxS σ n j = σ 4 j - seS σ j - mvS σ j + (if 0 ≤ j - σ 0 4 ∧ j - σ 0 4 < n then (if inS σ (j - σ 0 4) then mvS σ (j - σ 0 4) else 0) else 0) := by
  unfold nxS
  have e : ctS σ j = fun c => (if j = c then σ 4 c - seS σ c - mvS σ c else 0) + (if j - σ 0 4 = c then (if inS σ c then mvS σ c else 0) else 0) := by
    funext c
    unfold ctS
    congr 1
    by_cases q : j - σ 0 4 = c
    · rw [if_pos q]
      by_cases w : inS σ c
      · rw [if_pos w, if_pos ⟨w, by omega⟩]
      · rw [if_neg w, if_neg (fun z => w z.1)]
    · rw [if_neg q, if_neg (fun z => q (by omega))]
  rw [e, sumI_add, sum_pt hn, sum_pt hn, if_pos ⟨h0, h⟩]
theorem nxS_rng {σ : St} (hB : Bd σ) {n j : Int} (hn : 0 ≤ n) (h0 : 0 ≤ j) (h : j < n) : 0 ≤ nxS σ n j ∧ nxS σ n j ≤ 5 + 120 * σ 18 8 := by
  rw [nxS_eq hn h0 h]
  have b1 := hB.cloud j; have b2 := hB.cloud (j - σ 0 4); have b3 := hB.trips
  unfold seS mvS
  by_cases c0 : σ 0 4 = 0
  · rw [if_pos c0, if_pos c0]
    split
    · split <;> omega
    · omega
  · rw [if_neg c0, if_neg c0]
    split
    · split <;> omega
    · omega
theorem Bd_dr {σ : St} (hB : Bd σ) : Bd (drE σ) := by
  have hm := hB.dim.mul
  have e : ∀ k i, k ≠ 1 → k ≠ 4 → k ≠ 5 → k ≠ 18 → drE σ k i = σ k i := by
    intro k i h1 h4 h5 h18
    unfold drE dr2 dr
    rw [if_neg (fun z => h4 z.1), if_neg (fun z => h1 z.1), if_neg (fun z => h5 z.1), if_neg (fun z => h18 z.1), if_neg (fun z => h18 z.1)]
  have e0 : ∀ i, drE σ 0 i = σ 0 i := fun i => e 0 i (by decide) (by decide) (by decide) (by decide)
  have e2 : ∀ i, drE σ 2 i = σ 2 i := fun i => e 2 i (by decide) (by decide) (by decide) (by decide)
  have e7 : ∀ i, drE σ 7 i = σ 7 i := fun i => e 7 i (by decide) (by decide) (by decide) (by decide)
  have e8 : ∀ i, drE σ 8 i = σ 8 i := fun i => e 8 i (by decide) (by decide) (by decide) (by decide)
  have e10 : ∀ i, drE σ 10 i = σ 10 i := fun i => e 10 i (by decide) (by decide) (by decide) (by decide)
  have e11 : ∀ i, drE σ 11 i = σ 11 i := fun i => e 11 i (by decide) (by decide) (by decide) (by decide)
  have e12 : ∀ i, drE σ 12 i = σ 12 i := fun i => e 12 i (by decide) (by decide) (by decide) (by decide)
  have e13 : ∀ i, drE σ 13 i = σ 13 i := fun i => e 13 i (by decide) (by decide) (by decide) (by decide)
  have e14 : ∀ i, drE σ 14 i = σ 14 i := fun i => e 14 i (by decide) (by decide) (by decide) (by decide)
  have e16 : ∀ i, drE σ 16 i = σ 16 i := fun i => e 16 i (by decide) (by decide) (by decide) (by decide)
  have e17 : ∀ i, drE σ 17 i = σ 17 i := fun i => e 17 i (by decide) (by decide) (by decide) (by decide)
  have s0 : drE σ 18 0 = σ 18 0 := rfl
  have s1 : drE σ 18 1 = σ 18 1 := rfl
  have s6 : drE σ 18 6 = σ 18 6 := rfl
  have s7 : drE σ 18 7 = σ 18 7 := rfl
  have s8 : drE σ 18 8 = σ 18 8 := rfl
  have hB2 := hB
  unfold Bd Dim at hB ⊢
  simp only [e0, e2, e7, e8, e10, e11, e12, e13, e14, e16, e17, s0, s1, s6, s7, s8]
  refine ⟨hB.1, fun c => ?_, hB.2.2.1, fun c => ?_, fun c => ?_, hB.2.2.2.2.2⟩
  · have b1 := hB2.depth c; have b5 := hB2.loose c; have b4 := hB2.cloud c; have b8 := hB2.trips
    unfold drE dr2 dr seS
    rw [if_neg (by omega)]
    split
    · omega
    · rw [if_neg (by omega), if_neg (by omega), if_neg (by omega)]; exact b1
  · unfold drE dr2
    split
    · rename_i q
      exact nxS_rng hB2 (by omega) q.2.1 q.2.2
    · unfold dr
      rw [if_neg (by omega), if_neg (by omega), if_neg (by omega), if_neg (by omega)]; exact hB2.cloud c
  · have b5 := hB2.loose c
    unfold drE dr2 dr
    rw [if_neg (by omega), if_neg (by omega)]
    split
    · omega
    · rw [if_neg (by omega), if_neg (by omega)]; exact b5
theorem Bd_wt {σ : St} (n : Int) (hB : Bd σ) : Bd (wtS σ n) := by
  have e : ∀ k i, k ≠ 15 → wtS σ n k i = σ k i := by
    intro k i h
    unfold wtS
    rw [if_neg (fun z => h z.1)]
  unfold Bd Dim at hB ⊢
  simp only [e 0 _ (by decide), e 1 _ (by decide), e 2 _ (by decide), e 4 _ (by decide), e 5 _ (by decide), e 7 _ (by decide), e 8 _ (by decide), e 10 _ (by decide), e 11 _ (by decide), e 12 _ (by decide), e 13 _ (by decide), e 14 _ (by decide), e 16 _ (by decide), e 17 _ (by decide), e 18 _ (by decide)]
  exact hB
theorem Bd_sil {σ : St} (n : Int) (hB : Bd σ) : Bd (silS σ n) := by
  have e : ∀ k i, k ≠ 1 → k ≠ 18 → silS σ n k i = σ k i := by
    intro k i h h2
    unfold silS
    rw [if_neg (fun z => h z.1), if_neg (fun z => h2 z.1)]
  have s0 : silS σ n 18 0 = σ 18 0 := rfl
  have s1 : silS σ n 18 1 = σ 18 1 := rfl
  have s6 : silS σ n 18 6 = σ 18 6 := rfl
  have s7 : silS σ n 18 7 = σ 18 7 := rfl
  have s8 : silS σ n 18 8 = σ 18 8 := rfl
  have hB2 := hB
  unfold Bd Dim at hB ⊢
  simp only [e 0 _ (by decide) (by decide), e 2 _ (by decide) (by decide), e 4 _ (by decide) (by decide), e 5 _ (by decide) (by decide), e 7 _ (by decide) (by decide), e 8 _ (by decide) (by decide), e 10 _ (by decide) (by decide), e 11 _ (by decide) (by decide), e 12 _ (by decide) (by decide), e 13 _ (by decide) (by decide), e 14 _ (by decide) (by decide), e 16 _ (by decide) (by decide), e 17 _ (by decide) (by decide), s0, s1, s6, s7, s8]
  refine ⟨hB.1, fun c => ?_, hB.2.2⟩
  have b1 := hB2.depth c; have b2 := slS_rng (σ := σ) (c := c)
  unfold silS
  split
  · omega
  · rw [if_neg (by omega)]; exact b1
theorem Bd_hour {σ : St} {h : Int} (hB : Bd σ) (h0 : 0 ≤ h ∧ h ≤ 5000) : Bd (st σ 18 7 h) := by
  have e : ∀ k i, k ≠ 18 → st σ 18 7 h k i = σ k i := by
    intro k i hk
    unfold st
    rw [if_neg (fun z => hk z.1)]
  have s0 : st σ 18 7 h 18 0 = σ 18 0 := rfl
  have s1 : st σ 18 7 h 18 1 = σ 18 1 := rfl
  have s6 : st σ 18 7 h 18 6 = σ 18 6 := rfl
  have s7 : st σ 18 7 h 18 7 = h := rfl
  have s8 : st σ 18 7 h 18 8 = σ 18 8 := rfl
  unfold Bd Dim at hB ⊢
  simp only [e 0 _ (by decide), e 1 _ (by decide), e 2 _ (by decide), e 4 _ (by decide), e 5 _ (by decide), e 7 _ (by decide), e 8 _ (by decide), e 10 _ (by decide), e 11 _ (by decide), e 12 _ (by decide), e 13 _ (by decide), e 14 _ (by decide), e 16 _ (by decide), e 17 _ (by decide), s0, s1, s6, s7, s8]
  obtain ⟨a1, a2, a3, a4, a5, a6, a7, a8, a9, a10, a11, a12, a13, a14, a15, a16, a17, a18⟩ := hB
  exact ⟨a1, a2, a3, a4, a5, a6, a7, a8, a9, a10, a11, a12, a13, a14, a15, a16, h0, a18.1, a18.2⟩
/-- an hour -/
def hrS (σ : St) : St := if (σ 18 7 + 1) % 24 = 0 then silS (wtS (drE (st σ 18 7 (σ 18 7 + 1))) (σ 18 6)) (σ 18 0 * σ 18 1) else wtS (drE (st σ 18 7 (σ 18 7 + 1))) (σ 18 6)
theorem hr_hour {σ : St} : hrS σ 18 7 = σ 18 7 + 1 := by unfold hrS; split <;> rfl
theorem hr_trips {σ : St} : hrS σ 18 8 = σ 18 8 := by unfold hrS; split <;> rfl
theorem Bd_hr {σ : St} (hB : Bd σ) (h : σ 18 7 < 5000) : Bd (hrS σ) := by
  have hh := hB.hour
  have h1 := Bd_wt (σ 18 6) (Bd_dr (Bd_hour (h := σ 18 7 + 1) hB (by omega)))
  unfold hrS
  split
  · exact Bd_sil _ h1
  · exact h1
def hrN (σ : St) (n : Int) : St := itI (fun _ τ => hrS τ) σ n
theorem hrN_step {σ : St} {n : Int} (h : 0 ≤ n) : hrN σ (n + 1) = hrS (hrN σ n) := itI_step (f := fun _ τ => hrS τ) h
theorem hrN_facts {σ : St} {n : Int} (hB : Bd σ) (hn : 0 ≤ n) (h : σ 18 7 + n ≤ 5000) : Bd (hrN σ n) ∧ hrN σ n 18 7 = σ 18 7 + n ∧ hrN σ n 18 8 = σ 18 8 := by
  refine itI_ind (fun i τ => Bd τ ∧ τ 18 7 = σ 18 7 + i ∧ τ 18 8 = σ 18 8) hn ⟨hB, by omega, rfl⟩ (fun i τ h0 hi q => ⟨Bd_hr q.1 (by omega), by rw [hr_hour]; omega, by rw [hr_trips]; exact q.2.2⟩)
/-! congruence -/
section CG
variable {σ τ : St}
theorem q0 (h : Eqp τ σ) (i : Int) : τ 0 i = σ 0 i := h 0 i (pub_k (by decide) (by decide) (by decide) (by decide))
theorem q1 (h : Eqp τ σ) (i : Int) : τ 1 i = σ 1 i := h 1 i (pub_k (by decide) (by decide) (by decide) (by decide))
theorem q2 (h : Eqp τ σ) (i : Int) : τ 2 i = σ 2 i := h 2 i (pub_k (by decide) (by decide) (by decide) (by decide))
theorem q4 (h : Eqp τ σ) (i : Int) : τ 4 i = σ 4 i := h 4 i (pub_k (by decide) (by decide) (by decide) (by decide))
theorem q5 (h : Eqp τ σ) (i : Int) : τ 5 i = σ 5 i := h 5 i (pub_k (by decide) (by decide) (by decide) (by decide))
theorem q7 (h : Eqp τ σ) (i : Int) : τ 7 i = σ 7 i := h 7 i (pub_k (by decide) (by decide) (by decide) (by decide))
theorem q8 (h : Eqp τ σ) (i : Int) : τ 8 i = σ 8 i := h 8 i (pub_k (by decide) (by decide) (by decide) (by decide))
theorem q10 (h : Eqp τ σ) (i : Int) : τ 10 i = σ 10 i := h 10 i (pub_k (by decide) (by decide) (by decide) (by decide))
theorem q11 (h : Eqp τ σ) (i : Int) : τ 11 i = σ 11 i := h 11 i (pub_k (by decide) (by decide) (by decide) (by decide))
theorem q12 (h : Eqp τ σ) (i : Int) : τ 12 i = σ 12 i := h 12 i (pub_k (by decide) (by decide) (by decide) (by decide))
theorem q13 (h : Eqp τ σ) (i : Int) : τ 13 i = σ 13 i := h 13 i (pub_k (by decide) (by decide) (by decide) (by decide))
theorem q14 (h : Eqp τ σ) (i : Int) : τ 14 i = σ 14 i := h 14 i (pub_k (by decide) (by decide) (by decide) (by decide))
theorem q15 (h : Eqp τ σ) (i : Int) : τ 15 i = σ 15 i := h 15 i (pub_k (by decide) (by decide) (by decide) (by decide))
theorem q16 (h : Eqp τ σ) (i : Int) : τ 16 i = σ 16 i := h 16 i (pub_k (by decide) (by decide) (by decide) (by decide))
theorem q17 (h : Eqp τ σ) (i : Int) : τ 17 i = σ 17 i := h 17 i (pub_k (by decide) (by decide) (by decide) (by decide))
theorem qs (h : Eqp τ σ) (i : Int) (hi : i < 10) : τ 18 i = σ 18 i := h 18 i (pub_s hi)
theorem mvS_eqp (h : Eqp τ σ) : mvS τ = mvS σ := by funext c; unfold mvS; rw [q0 h, q4 h]
theorem seS_eqp (h : Eqp τ σ) : seS τ = seS σ := by funext c; unfold seS; rw [q4 h]
theorem goS_eqp (h : Eqp τ σ) : goS τ = goS σ := by funext c; unfold goS inS; rw [mvS_eqp h, q0 h, qs h 0 (by decide)]
theorem ctS_eqp (h : Eqp τ σ) : ctS τ = ctS σ := by funext j c; unfold ctS inS; rw [mvS_eqp h, seS_eqp h, q0 h, q4 h, qs h 0 (by decide)]
theorem nxS_eqp (h : Eqp τ σ) : nxS τ = nxS σ := by funext m j; unfold nxS; rw [ctS_eqp h]
theorem dr_eqp (h : Eqp τ σ) (m : Int) : Eqp (dr τ m) (dr σ m) := by
  intro k i hp
  unfold dr
  rw [goS_eqp h, seS_eqp h, h k i hp, q1 h, q5 h, qs h 4 (by decide), qs h 5 (by decide)]
theorem drE_eqp (h : Eqp τ σ) : Eqp (drE τ) (drE σ) := by
  intro k i hp
  unfold drE dr2
  rw [nxS_eqp h, qs h 0 (by decide), qs h 1 (by decide), dr_eqp h _ k i hp]
theorem wtS_eqp (h : Eqp τ σ) (n : Int) : Eqp (wtS τ n) (wtS σ n) := by
  intro k i hp
  unfold wtS
  rw [h k i hp, q4 h, q13 h, q14 h, q15 h]
theorem slS_eqp (h : Eqp τ σ) : slS τ = slS σ := by
  funext c
  have e0 := qs h 0 (by decide)
  unfold slS
  by_cases q : gaS σ (c / σ 18 0) (c % σ 18 0)
  · have q' : gaS τ (c / τ 18 0) (c % τ 18 0) := by rw [e0]; exact (gaS_eqp h).mpr q
    rw [if_pos q, if_pos q']
  · have q' : ¬ gaS τ (c / τ 18 0) (c % τ 18 0) := by rw [e0]; exact fun z => q ((gaS_eqp h).mp z)
    rw [if_neg q, if_neg q']
theorem silS_eqp (h : Eqp τ σ) (n : Int) : Eqp (silS τ n) (silS σ n) := by
  intro k i hp
  unfold silS
  rw [slS_eqp h, h k i hp, q1 h, qs h 2 (by decide)]
theorem st_eqp (h : Eqp τ σ) (k : Nat) (i v : Int) : Eqp (st τ k i v) (st σ k i v) := by
  intro k2 i2 hp
  unfold st
  rw [h k2 i2 hp]
theorem fl_eqp (h : Eqp τ σ) (k : Nat) (v n : Int) : Eqp (fl τ k v n) (fl σ k v n) := by
  intro k2 i2 hp
  unfold fl
  rw [h k2 i2 hp]
theorem hrS_eqp (h : Eqp τ σ) : Eqp (hrS τ) (hrS σ) := by
  have h1 := wtS_eqp (drE_eqp (st_eqp h 18 7 (σ 18 7 + 1))) (σ 18 6)
  unfold hrS
  rw [qs h 7 (by decide), qs h 6 (by decide), qs h 0 (by decide), qs h 1 (by decide)]
  split
  · exact silS_eqp h1 _
  · exact h1
theorem hrN_eqp (h : Eqp τ σ) {n : Int} (hn : 0 ≤ n) : Eqp (hrN τ n) (hrN σ n) := by
  obtain ⟨k, rfl⟩ := Int.eq_ofNat_of_zero_le hn
  induction k with
  | zero => exact h
  | succ k ih => exact hrS_eqp (ih (by omega))
theorem feN_eqp (h : Eqp τ σ) (z : Int) : ∀ (n : Nat) (x : Int), feN τ z n x = feN σ z n x := by
  intro n
  induction n with
  | zero => intro x; rfl
  | succ n ih => intro x; show (if z ≤ τ 7 (x % 12) then x else feN τ z n (x + 1)) = (if z ≤ σ 7 (x % 12) then x else feN σ z n (x + 1)); rw [q7 h, ih]
theorem bsN_eqp (h : Eqp τ σ) (a : Int) : ∀ (n : Nat), bsN τ a n = bsN σ a n := by
  intro n
  induction n with
  | zero => rfl
  | succ n ih => unfold bsN; rw [ih, q8 h, q8 h]
end CG
