/-! two states that differ in scratch alone answer alike; the bounds are kept -/
def Inv (σ : St) : Prop := Bd σ ∧ σ 18 8 ≤ σ 18 7 ∧ ∀ c, (c < 0 ∨ 120 ≤ c) → σ 4 c = 0
theorem Inv.eqp {σ τ : St} (h : Eqp τ σ) (hI : Inv σ) : Inv τ := ⟨hI.1.eqp h, by rw [qs h 8 (by decide), qs h 7 (by decide)]; exact hI.2.1, fun c hc => by rw [q4 h]; exact hI.2.2 c hc⟩
def Alk (x y : Int × St) : Prop := x.1 = y.1 ∧ Eqp x.2 y.2
theorem an_eqp {σ τ : St} {c r : Int} (h : ∀ k i, pub k i → ¬ (k = 18 ∧ 0 ≤ i) → τ k i = σ k i) : Eqp (anS τ c r) (anS σ c r) := by
  have hk : ∀ k, k ≠ 3 → k ≠ 6 → k ≠ 9 → k ≠ 18 → ∀ i, τ k i = σ k i := fun k h3 h6 h9 h18 i => h k i (pub_k h3 h6 h9 h18) (fun z => h18 z.1)
  refine eqp_of (fun i => ?_) (fun i => ?_) (fun i => ?_) (fun i => ?_) (fun i => ?_) (fun i => ?_) (fun i => ?_) (fun i => ?_) (fun i => ?_) (fun i => ?_) (fun i => hk 13 (by decide) (by decide) (by decide) (by decide) i) (fun i => hk 14 (by decide) (by decide) (by decide) (by decide) i) (fun i => hk 15 (by decide) (by decide) (by decide) (by decide) i) (fun i => hk 16 (by decide) (by decide) (by decide) (by decide) i) (fun i => ?_) (fun i hi => ?_) (fun k hk19 i => ?_)
  · show st (st (st (st (st τ 0 0 5) 0 1 100) 0 2 50) 0 3 80) 0 4 0 0 i = st (st (st (st (st σ 0 0 5) 0 1 100) 0 2 50) 0 3 80) 0 4 0 0 i
    simp only [st, hk 0 (by decide) (by decide) (by decide) (by decide)]
  · show fl τ 1 0 120 1 i = fl σ 1 0 120 1 i
    simp only [fl, tbS, hk 1 (by decide) (by decide) (by decide) (by decide)]
  · show fl τ 2 0 120 2 i = fl σ 2 0 120 2 i
    simp only [fl, tbS, hk 2 (by decide) (by decide) (by decide) (by decide)]
  · show fl τ 4 0 120 4 i = fl σ 4 0 120 4 i
    simp only [fl, tbS, hk 4 (by decide) (by decide) (by decide) (by decide)]
  · show fl τ 5 0 120 5 i = fl σ 5 0 120 5 i
    simp only [fl, tbS, hk 5 (by decide) (by decide) (by decide) (by decide)]
  · show fl τ 7 0 12 7 i = fl σ 7 0 12 7 i
    simp only [fl, tbS, hk 7 (by decide) (by decide) (by decide) (by decide)]
  · show tbS τ 31 8 i = tbS σ 31 8 i
    simp only [fl, tbS, hk 8 (by decide) (by decide) (by decide) (by decide)]
  · show fl τ 10 0 3 10 i = fl σ 10 0 3 10 i
    simp only [fl, tbS, hk 10 (by decide) (by decide) (by decide) (by decide)]
  · show fl τ 11 1000 3 11 i = fl σ 11 1000 3 11 i
    simp only [fl, tbS, hk 11 (by decide) (by decide) (by decide) (by decide)]
  · show fl τ 12 2 3 12 i = fl σ 12 2 3 12 i
    simp only [fl, tbS, hk 12 (by decide) (by decide) (by decide) (by decide)]
  · show fl τ 17 0 6 17 i = fl σ 17 0 6 17 i
    simp only [fl, tbS, hk 17 (by decide) (by decide) (by decide) (by decide)]
  · show st (st (st (st (st (st (st (st (st (st τ 18 0 c) 18 1 r) 18 2 0) 18 3 0) 18 4 0) 18 5 0) 18 6 0) 18 7 0) 18 8 0) 18 9 0 18 i = st (st (st (st (st (st (st (st (st (st σ 18 0 c) 18 1 r) 18 2 0) 18 3 0) 18 4 0) 18 5 0) 18 6 0) 18 7 0) 18 8 0) 18 9 0 18 i
    simp only [st, true_and]
    repeat' split
    all_goals first | rfl | exact h 18 i (pub_s hi) (fun z => by omega)
  · match k, hk19 with
    | n + 19, _ => exact hk (n + 19) (by omega) (by omega) (by omega) (by omega) i
section CG2
variable {σ τ : St}
theorem an_eq2 (h : Eqp τ σ) (c r : Int) : Eqp (anS τ c r) (anS σ c r) := an_eqp (fun k i hp _ => h k i hp)
theorem hd_eqp (h : Eqp τ σ) (t v lo mid hi : Int) : Eqp (hdS τ t v lo mid hi) (hdS σ t v lo mid hi) := by
  intro k i hp
  unfold hdS
  rw [h k i hp, q8 h]
theorem tk_eqp (h : Eqp τ σ) (sh n : Int) : Eqp (tkS τ sh n) (tkS σ sh n) := by
  intro k i hp
  unfold tkS
  rw [h k i hp, q1 h]
theorem jn_eqp (h : Eqp τ σ) (sh tt n : Int) : Eqp (jnS τ sh tt n) (jnS σ sh tt n) := by
  intro k i hp
  unfold jnS
  simp only [h k i hp, q16 h]
theorem joinF_eqp (h : Eqp τ σ) (s t : Int) : joinF τ s t = joinF σ s t := by funext c; simp only [joinF, q16 h]
theorem volF_eqp (h : Eqp τ σ) (s t : Int) : volF τ s t = volF σ s t := by funext c; simp only [volF, q16 h]
theorem payF_eqp (h : Eqp τ σ) (s t o : Int) : payF τ s t o = payF σ s t o := by funext c; simp only [payF, q16 h, q2 h]
theorem unkF_eqp (h : Eqp τ σ) (s t : Int) : unkF τ s t = unkF σ s t := by funext c; simp only [unkF, q16 h, q2 h]
theorem unfF_eqp (h : Eqp τ σ) : unfF τ = unfF σ := by funext c; simp only [unfF, q1 h, q2 h]
theorem e_board (h : Eqp τ σ) (a b : Int) : Alk (boardS τ a b) (boardS σ a b) := by
  unfold boardS
  try simp only [qs h 0 (by decide), qs h 1 (by decide), qs h 6 (by decide), qs h 7 (by decide), q0 h, q1 h, q2 h, q4 h, q5 h, q7 h, q8 h, q10 h, q11 h, q12 h, q13 h, q14 h, q15 h, q16 h, q17 h, bsN_eqp h, joinF_eqp h, volF_eqp h, payF_eqp h, unkF_eqp h]
  repeat' split
  all_goals first | exact ⟨rfl, h⟩ | exact ⟨rfl, an_eq2 h _ _⟩ | exact ⟨rfl, st_eqp h _ _ _⟩ | exact ⟨rfl, hd_eqp h _ _ _ _ _⟩ | exact ⟨rfl, st_eqp (st_eqp h _ _ _) _ _ _⟩ | exact ⟨rfl, st_eqp (st_eqp (st_eqp (st_eqp h _ _ _) _ _ _) _ _ _) _ _ _⟩ | exact ⟨rfl, hrN_eqp h (by omega)⟩ | exact ⟨rfl, tk_eqp h _ _⟩ | exact ⟨rfl, jn_eqp h _ _ _⟩
theorem e_lay (h : Eqp τ σ) (a b c : Int) : Alk (layS τ a b c) (layS σ a b c) := by
  unfold layS
  try simp only [qs h 0 (by decide), qs h 1 (by decide), qs h 6 (by decide), qs h 7 (by decide), q0 h, q1 h, q2 h, q4 h, q5 h, q7 h, q8 h, q10 h, q11 h, q12 h, q13 h, q14 h, q15 h, q16 h, q17 h, bsN_eqp h, joinF_eqp h, volF_eqp h, payF_eqp h, unkF_eqp h]
  repeat' split
  all_goals first | exact ⟨rfl, h⟩ | exact ⟨rfl, an_eq2 h _ _⟩ | exact ⟨rfl, st_eqp h _ _ _⟩ | exact ⟨rfl, hd_eqp h _ _ _ _ _⟩ | exact ⟨rfl, st_eqp (st_eqp h _ _ _) _ _ _⟩ | exact ⟨rfl, st_eqp (st_eqp (st_eqp (st_eqp h _ _ _) _ _ _) _ _ _) _ _ _⟩ | exact ⟨rfl, hrN_eqp h (by omega)⟩ | exact ⟨rfl, tk_eqp h _ _⟩ | exact ⟨rfl, jn_eqp h _ _ _⟩
theorem e_rule (h : Eqp τ σ) (a b : Int) : Alk (ruleS τ a b) (ruleS σ a b) := by
  unfold ruleS
  try simp only [qs h 0 (by decide), qs h 1 (by decide), qs h 6 (by decide), qs h 7 (by decide), q0 h, q1 h, q2 h, q4 h, q5 h, q7 h, q8 h, q10 h, q11 h, q12 h, q13 h, q14 h, q15 h, q16 h, q17 h, bsN_eqp h, joinF_eqp h, volF_eqp h, payF_eqp h, unkF_eqp h]
  repeat' split
  all_goals first | exact ⟨rfl, h⟩ | exact ⟨rfl, an_eq2 h _ _⟩ | exact ⟨rfl, st_eqp h _ _ _⟩ | exact ⟨rfl, hd_eqp h _ _ _ _ _⟩ | exact ⟨rfl, st_eqp (st_eqp h _ _ _) _ _ _⟩ | exact ⟨rfl, st_eqp (st_eqp (st_eqp (st_eqp h _ _ _) _ _ _) _ _ _) _ _ _⟩ | exact ⟨rfl, hrN_eqp h (by omega)⟩ | exact ⟨rfl, tk_eqp h _ _⟩ | exact ⟨rfl, jn_eqp h _ _ _⟩
theorem e_tide (h : Eqp τ σ) (a b : Int) : Alk (tideS τ a b) (tideS σ a b) := by
  unfold tideS
  try simp only [qs h 0 (by decide), qs h 1 (by decide), qs h 6 (by decide), qs h 7 (by decide), q0 h, q1 h, q2 h, q4 h, q5 h, q7 h, q8 h, q10 h, q11 h, q12 h, q13 h, q14 h, q15 h, q16 h, q17 h, bsN_eqp h, joinF_eqp h, volF_eqp h, payF_eqp h, unkF_eqp h]
  repeat' split
  all_goals first | exact ⟨rfl, h⟩ | exact ⟨rfl, an_eq2 h _ _⟩ | exact ⟨rfl, st_eqp h _ _ _⟩ | exact ⟨rfl, hd_eqp h _ _ _ _ _⟩ | exact ⟨rfl, st_eqp (st_eqp h _ _ _) _ _ _⟩ | exact ⟨rfl, st_eqp (st_eqp (st_eqp (st_eqp h _ _ _) _ _ _) _ _ _) _ _ _⟩ | exact ⟨rfl, hrN_eqp h (by omega)⟩ | exact ⟨rfl, tk_eqp h _ _⟩ | exact ⟨rfl, jn_eqp h _ _ _⟩
theorem e_hold (h : Eqp τ σ) (a b : Int) : Alk (holdS τ a b) (holdS σ a b) := by
  unfold holdS
  try simp only [qs h 0 (by decide), qs h 1 (by decide), qs h 6 (by decide), qs h 7 (by decide), q0 h, q1 h, q2 h, q4 h, q5 h, q7 h, q8 h, q10 h, q11 h, q12 h, q13 h, q14 h, q15 h, q16 h, q17 h, bsN_eqp h, joinF_eqp h, volF_eqp h, payF_eqp h, unkF_eqp h]
  repeat' split
  all_goals first | exact ⟨rfl, h⟩ | exact ⟨rfl, an_eq2 h _ _⟩ | exact ⟨rfl, st_eqp h _ _ _⟩ | exact ⟨rfl, hd_eqp h _ _ _ _ _⟩ | exact ⟨rfl, st_eqp (st_eqp h _ _ _) _ _ _⟩ | exact ⟨rfl, st_eqp (st_eqp (st_eqp (st_eqp h _ _ _) _ _ _) _ _ _) _ _ _⟩ | exact ⟨rfl, hrN_eqp h (by omega)⟩ | exact ⟨rfl, tk_eqp h _ _⟩ | exact ⟨rfl, jn_eqp h _ _ _⟩
theorem e_spot (h : Eqp τ σ) (a b c : Int) : Alk (spotS τ a b c) (spotS σ a b c) := by
  unfold spotS
  try simp only [qs h 0 (by decide), qs h 1 (by decide), qs h 6 (by decide), qs h 7 (by decide), q0 h, q1 h, q2 h, q4 h, q5 h, q7 h, q8 h, q10 h, q11 h, q12 h, q13 h, q14 h, q15 h, q16 h, q17 h, bsN_eqp h, joinF_eqp h, volF_eqp h, payF_eqp h, unkF_eqp h]
  repeat' split
  all_goals first | exact ⟨rfl, h⟩ | exact ⟨rfl, an_eq2 h _ _⟩ | exact ⟨rfl, st_eqp h _ _ _⟩ | exact ⟨rfl, hd_eqp h _ _ _ _ _⟩ | exact ⟨rfl, st_eqp (st_eqp h _ _ _) _ _ _⟩ | exact ⟨rfl, st_eqp (st_eqp (st_eqp (st_eqp h _ _ _) _ _ _) _ _ _) _ _ _⟩ | exact ⟨rfl, hrN_eqp h (by omega)⟩ | exact ⟨rfl, tk_eqp h _ _⟩ | exact ⟨rfl, jn_eqp h _ _ _⟩
theorem e_post (h : Eqp τ σ) (a b : Int) : Alk (postS τ a b) (postS σ a b) := by
  unfold postS
  try simp only [qs h 0 (by decide), qs h 1 (by decide), qs h 6 (by decide), qs h 7 (by decide), q0 h, q1 h, q2 h, q4 h, q5 h, q7 h, q8 h, q10 h, q11 h, q12 h, q13 h, q14 h, q15 h, q16 h, q17 h, bsN_eqp h, joinF_eqp h, volF_eqp h, payF_eqp h, unkF_eqp h]
  repeat' split
  all_goals first | exact ⟨rfl, h⟩ | exact ⟨rfl, an_eq2 h _ _⟩ | exact ⟨rfl, st_eqp h _ _ _⟩ | exact ⟨rfl, hd_eqp h _ _ _ _ _⟩ | exact ⟨rfl, st_eqp (st_eqp h _ _ _) _ _ _⟩ | exact ⟨rfl, st_eqp (st_eqp (st_eqp (st_eqp h _ _ _) _ _ _) _ _ _) _ _ _⟩ | exact ⟨rfl, hrN_eqp h (by omega)⟩ | exact ⟨rfl, tk_eqp h _ _⟩ | exact ⟨rfl, jn_eqp h _ _ _⟩
theorem e_best (h : Eqp τ σ) (a : Int) : Alk (bestS τ a) (bestS σ a) := by
  unfold bestS
  try simp only [qs h 0 (by decide), qs h 1 (by decide), qs h 6 (by decide), qs h 7 (by decide), q0 h, q1 h, q2 h, q4 h, q5 h, q7 h, q8 h, q10 h, q11 h, q12 h, q13 h, q14 h, q15 h, q16 h, q17 h, bsN_eqp h, joinF_eqp h, volF_eqp h, payF_eqp h, unkF_eqp h]
  repeat' split
  all_goals first | exact ⟨rfl, h⟩ | exact ⟨rfl, an_eq2 h _ _⟩ | exact ⟨rfl, st_eqp h _ _ _⟩ | exact ⟨rfl, hd_eqp h _ _ _ _ _⟩ | exact ⟨rfl, st_eqp (st_eqp h _ _ _) _ _ _⟩ | exact ⟨rfl, st_eqp (st_eqp (st_eqp (st_eqp h _ _ _) _ _ _) _ _ _) _ _ _⟩ | exact ⟨rfl, hrN_eqp h (by omega)⟩ | exact ⟨rfl, tk_eqp h _ _⟩ | exact ⟨rfl, jn_eqp h _ _ _⟩
theorem e_hours (h : Eqp τ σ) (a : Int) : Alk (hoursS τ a) (hoursS σ a) := by
  unfold hoursS
  try simp only [qs h 0 (by decide), qs h 1 (by decide), qs h 6 (by decide), qs h 7 (by decide), q0 h, q1 h, q2 h, q4 h, q5 h, q7 h, q8 h, q10 h, q11 h, q12 h, q13 h, q14 h, q15 h, q16 h, q17 h, bsN_eqp h, joinF_eqp h, volF_eqp h, payF_eqp h, unkF_eqp h]
  repeat' split
  all_goals first | exact ⟨rfl, h⟩ | exact ⟨rfl, an_eq2 h _ _⟩ | exact ⟨rfl, st_eqp h _ _ _⟩ | exact ⟨rfl, hd_eqp h _ _ _ _ _⟩ | exact ⟨rfl, st_eqp (st_eqp h _ _ _) _ _ _⟩ | exact ⟨rfl, st_eqp (st_eqp (st_eqp (st_eqp h _ _ _) _ _ _) _ _ _) _ _ _⟩ | exact ⟨rfl, hrN_eqp h (by omega)⟩ | exact ⟨rfl, tk_eqp h _ _⟩ | exact ⟨rfl, jn_eqp h _ _ _⟩
theorem e_sound (h : Eqp τ σ) (a : Int) : Alk (soundS τ a) (soundS σ a) := by
  unfold soundS
  try simp only [qs h 0 (by decide), qs h 1 (by decide), qs h 6 (by decide), qs h 7 (by decide), q0 h, q1 h, q2 h, q4 h, q5 h, q7 h, q8 h, q10 h, q11 h, q12 h, q13 h, q14 h, q15 h, q16 h, q17 h, bsN_eqp h, joinF_eqp h, volF_eqp h, payF_eqp h, unkF_eqp h]
  repeat' split
  all_goals first | exact ⟨rfl, h⟩ | exact ⟨rfl, an_eq2 h _ _⟩ | exact ⟨rfl, st_eqp h _ _ _⟩ | exact ⟨rfl, hd_eqp h _ _ _ _ _⟩ | exact ⟨rfl, st_eqp (st_eqp h _ _ _) _ _ _⟩ | exact ⟨rfl, st_eqp (st_eqp (st_eqp (st_eqp h _ _ _) _ _ _) _ _ _) _ _ _⟩ | exact ⟨rfl, hrN_eqp h (by omega)⟩ | exact ⟨rfl, tk_eqp h _ _⟩ | exact ⟨rfl, jn_eqp h _ _ _⟩
theorem e_lose (h : Eqp τ σ) (a b : Int) : Alk (loseS τ a b) (loseS σ a b) := by
  unfold loseS
  try simp only [qs h 0 (by decide), qs h 1 (by decide), qs h 6 (by decide), qs h 7 (by decide), q0 h, q1 h, q2 h, q4 h, q5 h, q7 h, q8 h, q10 h, q11 h, q12 h, q13 h, q14 h, q15 h, q16 h, q17 h, bsN_eqp h, joinF_eqp h, volF_eqp h, payF_eqp h, unkF_eqp h]
  repeat' split
  all_goals first | exact ⟨rfl, h⟩ | exact ⟨rfl, an_eq2 h _ _⟩ | exact ⟨rfl, st_eqp h _ _ _⟩ | exact ⟨rfl, hd_eqp h _ _ _ _ _⟩ | exact ⟨rfl, st_eqp (st_eqp h _ _ _) _ _ _⟩ | exact ⟨rfl, st_eqp (st_eqp (st_eqp (st_eqp h _ _ _) _ _ _) _ _ _) _ _ _⟩ | exact ⟨rfl, hrN_eqp h (by omega)⟩ | exact ⟨rfl, tk_eqp h _ _⟩ | exact ⟨rfl, jn_eqp h _ _ _⟩
theorem e_join (h : Eqp τ σ) (a b : Int) : Alk (joinS τ a b) (joinS σ a b) := by
  unfold joinS
  try simp only [qs h 0 (by decide), qs h 1 (by decide), qs h 6 (by decide), qs h 7 (by decide), q0 h, q1 h, q2 h, q4 h, q5 h, q7 h, q8 h, q10 h, q11 h, q12 h, q13 h, q14 h, q15 h, q16 h, q17 h, bsN_eqp h, joinF_eqp h, volF_eqp h, payF_eqp h, unkF_eqp h]
  repeat' split
  all_goals first | exact ⟨rfl, h⟩ | exact ⟨rfl, an_eq2 h _ _⟩ | exact ⟨rfl, st_eqp h _ _ _⟩ | exact ⟨rfl, hd_eqp h _ _ _ _ _⟩ | exact ⟨rfl, st_eqp (st_eqp h _ _ _) _ _ _⟩ | exact ⟨rfl, st_eqp (st_eqp (st_eqp (st_eqp h _ _ _) _ _ _) _ _ _) _ _ _⟩ | exact ⟨rfl, hrN_eqp h (by omega)⟩ | exact ⟨rfl, tk_eqp h _ _⟩ | exact ⟨rfl, jn_eqp h _ _ _⟩
theorem e_between (h : Eqp τ σ) (a b c : Int) : Alk (betweenS τ a b c) (betweenS σ a b c) := by
  unfold betweenS
  try simp only [qs h 0 (by decide), qs h 1 (by decide), qs h 6 (by decide), qs h 7 (by decide), q0 h, q1 h, q2 h, q4 h, q5 h, q7 h, q8 h, q10 h, q11 h, q12 h, q13 h, q14 h, q15 h, q16 h, q17 h, bsN_eqp h, joinF_eqp h, volF_eqp h, payF_eqp h, unkF_eqp h]
  repeat' split
  all_goals first | exact ⟨rfl, h⟩ | exact ⟨rfl, an_eq2 h _ _⟩ | exact ⟨rfl, st_eqp h _ _ _⟩ | exact ⟨rfl, hd_eqp h _ _ _ _ _⟩ | exact ⟨rfl, st_eqp (st_eqp h _ _ _) _ _ _⟩ | exact ⟨rfl, st_eqp (st_eqp (st_eqp (st_eqp h _ _ _) _ _ _) _ _ _) _ _ _⟩ | exact ⟨rfl, hrN_eqp h (by omega)⟩ | exact ⟨rfl, tk_eqp h _ _⟩ | exact ⟨rfl, jn_eqp h _ _ _⟩
theorem e_sounded (h : Eqp τ σ) (a b : Int) : Alk (soundedS τ a b) (soundedS σ a b) := by
  unfold soundedS
  try simp only [qs h 0 (by decide), qs h 1 (by decide), qs h 6 (by decide), qs h 7 (by decide), q0 h, q1 h, q2 h, q4 h, q5 h, q7 h, q8 h, q10 h, q11 h, q12 h, q13 h, q14 h, q15 h, q16 h, q17 h, bsN_eqp h, joinF_eqp h, volF_eqp h, payF_eqp h, unkF_eqp h]
  repeat' split
  all_goals first | exact ⟨rfl, h⟩ | exact ⟨rfl, an_eq2 h _ _⟩ | exact ⟨rfl, st_eqp h _ _ _⟩ | exact ⟨rfl, hd_eqp h _ _ _ _ _⟩ | exact ⟨rfl, st_eqp (st_eqp h _ _ _) _ _ _⟩ | exact ⟨rfl, st_eqp (st_eqp (st_eqp (st_eqp h _ _ _) _ _ _) _ _ _) _ _ _⟩ | exact ⟨rfl, hrN_eqp h (by omega)⟩ | exact ⟨rfl, tk_eqp h _ _⟩ | exact ⟨rfl, jn_eqp h _ _ _⟩
theorem e_cell (h : Eqp τ σ) (a b : Int) : Alk (cellS τ a b) (cellS σ a b) := by
  unfold cellS
  try simp only [qs h 0 (by decide), qs h 1 (by decide), qs h 6 (by decide), qs h 7 (by decide), q0 h, q1 h, q2 h, q4 h, q5 h, q7 h, q8 h, q10 h, q11 h, q12 h, q13 h, q14 h, q15 h, q16 h, q17 h, bsN_eqp h, joinF_eqp h, volF_eqp h, payF_eqp h, unkF_eqp h]
  repeat' split
  all_goals first | exact ⟨rfl, h⟩ | exact ⟨rfl, an_eq2 h _ _⟩ | exact ⟨rfl, st_eqp h _ _ _⟩ | exact ⟨rfl, hd_eqp h _ _ _ _ _⟩ | exact ⟨rfl, st_eqp (st_eqp h _ _ _) _ _ _⟩ | exact ⟨rfl, st_eqp (st_eqp (st_eqp (st_eqp h _ _ _) _ _ _) _ _ _) _ _ _⟩ | exact ⟨rfl, hrN_eqp h (by omega)⟩ | exact ⟨rfl, tk_eqp h _ _⟩ | exact ⟨rfl, jn_eqp h _ _ _⟩
theorem e_about (h : Eqp τ σ) (a b : Int) : Alk (aboutS τ a b) (aboutS σ a b) := by
  unfold aboutS
  try simp only [qs h 0 (by decide), qs h 1 (by decide), qs h 6 (by decide), qs h 7 (by decide), q0 h, q1 h, q2 h, q4 h, q5 h, q7 h, q8 h, q10 h, q11 h, q12 h, q13 h, q14 h, q15 h, q16 h, q17 h, bsN_eqp h, joinF_eqp h, volF_eqp h, payF_eqp h, unkF_eqp h]
  repeat' split
  all_goals first | exact ⟨rfl, h⟩ | exact ⟨rfl, an_eq2 h _ _⟩ | exact ⟨rfl, st_eqp h _ _ _⟩ | exact ⟨rfl, hd_eqp h _ _ _ _ _⟩ | exact ⟨rfl, st_eqp (st_eqp h _ _ _) _ _ _⟩ | exact ⟨rfl, st_eqp (st_eqp (st_eqp (st_eqp h _ _ _) _ _ _) _ _ _) _ _ _⟩ | exact ⟨rfl, hrN_eqp h (by omega)⟩ | exact ⟨rfl, tk_eqp h _ _⟩ | exact ⟨rfl, jn_eqp h _ _ _⟩
theorem e_broken (h : Eqp τ σ) (a : Int) : Alk (brokenS τ a) (brokenS σ a) := by
  unfold brokenS
  try simp only [qs h 0 (by decide), qs h 1 (by decide), qs h 6 (by decide), qs h 7 (by decide), q0 h, q1 h, q2 h, q4 h, q5 h, q7 h, q8 h, q10 h, q11 h, q12 h, q13 h, q14 h, q15 h, q16 h, q17 h, bsN_eqp h, joinF_eqp h, volF_eqp h, payF_eqp h, unkF_eqp h]
  repeat' split
  all_goals first | exact ⟨rfl, h⟩ | exact ⟨rfl, an_eq2 h _ _⟩ | exact ⟨rfl, st_eqp h _ _ _⟩ | exact ⟨rfl, hd_eqp h _ _ _ _ _⟩ | exact ⟨rfl, st_eqp (st_eqp h _ _ _) _ _ _⟩ | exact ⟨rfl, st_eqp (st_eqp (st_eqp (st_eqp h _ _ _) _ _ _) _ _ _) _ _ _⟩ | exact ⟨rfl, hrN_eqp h (by omega)⟩ | exact ⟨rfl, tk_eqp h _ _⟩ | exact ⟨rfl, jn_eqp h _ _ _⟩
theorem e_count (h : Eqp τ σ) (w : Int) : Alk (countS τ w) (countS σ w) := by
  refine ⟨?_, h⟩
  show (if w = 0 then τ 18 0 else _) = _
  unfold countS
  simp only [qs h 0 (by decide), qs h 1 (by decide), qs h 2 (by decide), qs h 3 (by decide), qs h 4 (by decide), qs h 5 (by decide), qs h 6 (by decide), qs h 7 (by decide), qs h 8 (by decide), qs h 9 (by decide), unfF_eqp h]
/-- what a plan is made of -/
def Rp (τ σ : St) : Prop := Eqp τ σ ∧ (∀ x, 0 ≤ x → x < 12 → τ 9 x = σ 9 x) ∧ τ 18 10 = σ 18 10 ∧ τ 18 11 = σ 18 11 ∧ τ 18 12 = σ 18 12
theorem itI_rel {f g : Int → St → St} {n : Int} (R : St → St → Prop) (hn : 0 ≤ n) (h0 : R τ σ) (hs : ∀ i p q, 0 ≤ i → i < n → R p q → R (f i p) (g i q)) : R (itI f τ n) (itI g σ n) := by
  obtain ⟨k, rfl⟩ := Int.eq_ofNat_of_zero_le hn
  have key : ∀ j : Nat, j ≤ k → R (itN f τ j) (itN g σ j) := by
    intro j
    induction j with
    | zero => intro _; exact h0
    | succ j ih => intro hj; exact hs j _ _ (by omega) (by omega) (ih (by omega))
  exact key k (Nat.le_refl k)
theorem pc_rel (h : Rp τ σ) {ov x : Int} (hx : 0 ≤ x ∧ x < 12) : Rp (pcS τ ov x) (pcS σ ov x) := by
  obtain ⟨h1, h2, h3, h4, h5⟩ := h
  have er : rmS τ ov x = rmS σ ov x := by unfold rmS; simp only [h3, q1 h1, q2 h1, qs h1 0 (by decide)]
  unfold pcS
  rw [er, h2 x hx.1 hx.2, h3, h4, qs h1 0 (by decide)]
  split
  · refine ⟨st_eqp (st_eqp (st_eqp h1 _ _ _) _ _ _) _ _ _, fun y h0 hy => ?_, h3, rfl, rfl⟩
    show (if 9 = 9 ∧ y = x then σ 9 x + 1 else τ 9 y) = (if 9 = 9 ∧ y = x then σ 9 x + 1 else σ 9 y)
    rw [h2 y h0 hy]
  · exact ⟨h1, h2, h3, h4, h5⟩
theorem rn_rel (h : Rp τ σ) {a b w ov : Int} (ha : 0 ≤ a ∧ a < 12) (hb : 0 ≤ b ∧ b < 12) : Rp (rnS τ a b w ov) (rnS σ a b w ov) := by
  have hab := absI_rng (z := b - a) (by omega)
  have hab2 := absI_or (b - a)
  unfold rnS rn
  refine itI_rel Rp (by omega) h (fun i p q h0 hi hq => ?_)
  show Rp (if p 18 11 < w then pcS p ov (a + i * (if a ≤ b then 1 else -1)) else p) (if q 18 11 < w then pcS q ov (a + i * (if a ≤ b then 1 else -1)) else q)
  rw [hq.2.2.2.1]
  split
  · refine pc_rel hq ?_
    by_cases c : a ≤ b
    · rw [if_pos c]; omega
    · rw [if_neg c]; omega
  · exact hq
theorem pl_rel (h : Eqp τ σ) {row a b t : Int} (ha : 0 ≤ a ∧ a < 12) (hb : 0 ≤ b ∧ b < 12) : Rp (plS τ row a b t) (plS σ row a b t) := by
  unfold plS rd
  rw [q8 h, q0 h]
  refine itI_rel Rp (by omega) ?_ (fun i p q _ _ hq => rn_rel hq ha hb)
  refine ⟨st_eqp (st_eqp (st_eqp (fl_eqp h _ _ _) _ _ _) _ _ _) _ _ _ |>.tr ?_, fun y h0 hy => ?_, rfl, rfl, ?_⟩
  · unfold p0S
    rw [qs h 0 (by decide)]
    exact Eqp.rf
  · show (if 9 = 9 ∧ 0 ≤ y ∧ y < 12 then (0 : Int) else τ 9 y) = (if 9 = 9 ∧ 0 ≤ y ∧ y < 12 then (0 : Int) else σ 9 y)
    rw [if_pos ⟨rfl, h0, hy⟩, if_pos ⟨rfl, h0, hy⟩]
  · show row * τ 18 0 + a = row * σ 18 0 + a
    rw [qs h 0 (by decide)]
theorem co_rel (h : Rp τ σ) (hd : σ 18 0 ≤ 12) (t s : Int) : Eqp (coS τ t s) (coS σ t s) := by
  obtain ⟨h1, h2, h3, h4, h5⟩ := h
  have hdp : Eqp (dpS τ (τ 18 0)) (dpS σ (σ 18 0)) := by
    intro k i hp
    unfold dpS
    rw [h3, qs h1 0 (by decide), h1 k i hp, q1 h1]
    split
    · rename_i q
      rw [h2 _ (by omega) (by omega)]
    · rfl
  unfold coS
  rw [h4, h5, q4 h1, q10 h1, qs h1 3 (by decide), qs h1 8 (by decide), qs h1 9 (by decide)]
  exact st_eqp (st_eqp (st_eqp (st_eqp (st_eqp hdp _ _ _) _ _ _) _ _ _) _ _ _) _ _ _
theorem e_trip (h : Eqp τ σ) (hB : Bd σ) (row a b t s : Int) : Alk (tripS τ row a b t s) (tripS σ row a b t s) := by
  have hd := hB.dim.2.1
  unfold tripS
  rw [qs h 0 (by decide), qs h 1 (by decide)]
  split
  · rename_i hc
    have hR := pl_rel (row := row) (t := t) h (a := a) (b := b) (by omega) (by omega)
    have hw := hB.away s (by omega) (by omega)
    have hg := hh_rng (σ := σ) (ld := plS σ row a b t 18 11) hw.1
    rw [q10 h, q11 h, q12 h, hR.2.2.2.1, hhS_eqp h, qs h 7 (by decide)]
    split
    · exact ⟨rfl, h⟩
    · split
      · exact ⟨rfl, h⟩
      · split
        · exact ⟨rfl, h⟩
        · refine ⟨rfl, hrN_eqp (co_rel hR ?_ t s) (by omega)⟩
          have hE := (pl_facts (row := row) (t := t) hB (a := a) (b := b) (by omega) (by omega)).1
          rw [qs hE 0 (by decide)]
          exact hd
  · exact ⟨rfl, h⟩
end CG2
/-! the bounds are kept -/
section BI
variable {σ : St}
theorem hr_out (hB : Bd σ) {c : Int} (hc : c < 0 ∨ 120 ≤ c) : hrS σ 4 c = σ 4 c := by
  have hm := hB.dim.mul
  have h1 : drE (st σ 18 7 (σ 18 7 + 1)) 4 c = σ 4 c := by
    exact (if_neg (fun z => by have h3 : c < σ 18 0 * σ 18 1 := z.2.2; omega)).trans rfl
  unfold hrS
  split
  · exact h1
  · exact h1
theorem hrN_out {n : Int} (hB : Bd σ) (hn : 0 ≤ n) (h : σ 18 7 + n ≤ 5000) {c : Int} (hc : c < 0 ∨ 120 ≤ c) : hrN σ n 4 c = σ 4 c := by
  have key : (Bd (hrN σ n) ∧ hrN σ n 18 7 = σ 18 7 + n) ∧ hrN σ n 4 c = σ 4 c := by
    refine itI_ind (fun i τ => (Bd τ ∧ τ 18 7 = σ 18 7 + i) ∧ τ 4 c = σ 4 c) hn ⟨⟨hB, by omega⟩, rfl⟩ (fun i τ h0 hi q => ⟨⟨Bd_hr q.1.1 (by omega), by rw [hr_hour]; omega⟩, (hr_out q.1.1 hc).trans q.2⟩)
  exact key.2
theorem Bd_of {τ : St} (h0 : Dim τ) (h1 : ∀ c, 0 ≤ τ 1 c ∧ τ 1 c ≤ 400) (h2 : ∀ c, 0 ≤ τ 2 c ∧ τ 2 c ≤ 300) (h4 : ∀ c, 0 ≤ τ 4 c ∧ τ 4 c ≤ 5 + 120 * τ 18 8) (h5 : ∀ c, 0 ≤ τ 5 c ∧ τ 5 c ≤ 3) (ho : 0 ≤ τ 0 0 ∧ τ 0 0 ≤ 50) (hr : ∀ j, 1 ≤ j → j ≤ 3 → 0 ≤ τ 0 j ∧ τ 0 j ≤ 400) (hc : -1 ≤ τ 0 4 ∧ τ 0 4 ≤ 1) (h7 : ∀ c, 0 ≤ τ 7 c ∧ τ 7 c ≤ 60) (h8 : ∀ c, 0 ≤ τ 8 c ∧ τ 8 c ≤ 200) (h10 : ∀ c, 0 ≤ τ 10 c ∧ τ 10 c ≤ 100000) (h11 : ∀ c, 0 ≤ τ 11 c ∧ τ 11 c ≤ 100000) (h12 : ∀ s, 0 ≤ s → s ≤ 2 → 1 ≤ τ 12 s ∧ τ 12 s ≤ 20) (hp : 0 ≤ τ 18 6 ∧ τ 18 6 ≤ 8) (h13 : ∀ p, 0 ≤ p → p < τ 18 6 → 0 ≤ τ 13 p ∧ τ 13 p < τ 18 0 * τ 18 1) (h14 : ∀ c, 0 ≤ τ 14 c ∧ τ 14 c ≤ 10000) (hh : 0 ≤ τ 18 7 ∧ τ 18 7 ≤ 5000) (ht : 0 ≤ τ 18 8 ∧ τ 18 8 ≤ 5001) (h16 : ∀ c, -4 ≤ τ 16 c ∧ τ 16 c ≤ 400) (h17 : ∀ c, 0 ≤ τ 17 c ∧ τ 17 c ≤ 1) : Bd τ :=
  ⟨h0, h1, h2, h4, h5, ho, hr, hc, h7, h8, h10, h11, h12, hp, h13, h14, hh, ht, h16, h17⟩
theorem Bd_lay1 (h : Bd σ) {i v : Int} (hv : 0 ≤ v ∧ v ≤ 400) : Bd (st σ 1 i v) :=
  Bd_of (h.dim) (fun c => by have b1 := h.depth c; show _ ≤ (if 1 = 1 ∧ c = i then v else σ 1 c) ∧ (if 1 = 1 ∧ c = i then v else σ 1 c) ≤ _; split <;> omega) (h.design) (h.cloud) (h.loose) (h.over) (h.rule) (h.current) (h.tide) (h.table) (h.held) (h.most) (h.away) (h.posts) (h.place) (h.limit) (h.hour) (h.trips) (h.sheet) (h.taken)
theorem Bd_lay2 (h : Bd σ) {i v : Int} (hv : 0 ≤ v ∧ v ≤ 300) : Bd (st σ 2 i v) :=
  Bd_of (h.dim) (h.depth) (fun c => by have b1 := h.design c; show _ ≤ (if 2 = 2 ∧ c = i then v else σ 2 c) ∧ (if 2 = 2 ∧ c = i then v else σ 2 c) ≤ _; split <;> omega) (h.cloud) (h.loose) (h.over) (h.rule) (h.current) (h.tide) (h.table) (h.held) (h.most) (h.away) (h.posts) (h.place) (h.limit) (h.hour) (h.trips) (h.sheet) (h.taken)
theorem Bd_tide (h : Bd σ) {i v : Int} (hv : 0 ≤ v ∧ v ≤ 60) : Bd (st σ 7 i v) :=
  Bd_of (h.dim) (h.depth) (h.design) (h.cloud) (h.loose) (h.over) (h.rule) (h.current) (fun c => by have b1 := h.tide c; show _ ≤ (if 7 = 7 ∧ c = i then v else σ 7 c) ∧ (if 7 = 7 ∧ c = i then v else σ 7 c) ≤ _; split <;> omega) (h.table) (h.held) (h.most) (h.away) (h.posts) (h.place) (h.limit) (h.hour) (h.trips) (h.sheet) (h.taken)
theorem Bd_lose (h : Bd σ) {i : Int}  : Bd (st σ 16 i (-4)) :=
  Bd_of (h.dim) (h.depth) (h.design) (h.cloud) (h.loose) (h.over) (h.rule) (h.current) (h.tide) (h.table) (h.held) (h.most) (h.away) (h.posts) (h.place) (h.limit) (h.hour) (h.trips) (fun c => by have b1 := h.sheet c; show _ ≤ (if 16 = 16 ∧ c = i then -4 else σ 16 c) ∧ (if 16 = 16 ∧ c = i then -4 else σ 16 c) ≤ _; split <;> omega) (h.taken)
theorem Bd_rule (h : Bd σ) {w v : Int} (hv : (w = 0 ∧ 0 ≤ v ∧ v ≤ 50) ∨ (1 ≤ w ∧ w ≤ 3 ∧ 0 ≤ v ∧ v ≤ 400) ∨ (w = 4 ∧ -1 ≤ v ∧ v ≤ 1)) : Bd (st σ 0 w v) :=
  Bd_of (h.dim) (h.depth) (h.design) (h.cloud) (h.loose) (by have b1 := h.over; show _ ≤ (if 0 = 0 ∧ (0 : Int) = w then v else σ 0 (0 : Int)) ∧ (if 0 = 0 ∧ (0 : Int) = w then v else σ 0 (0 : Int)) ≤ _; split <;> omega) (fun j h1 h2 => by have b1 := h.rule j h1 h2; show _ ≤ (if 0 = 0 ∧ j = w then v else σ 0 j) ∧ (if 0 = 0 ∧ j = w then v else σ 0 j) ≤ _; split <;> omega) (by have b1 := h.current; show _ ≤ (if 0 = 0 ∧ (4 : Int) = w then v else σ 0 (4 : Int)) ∧ (if 0 = 0 ∧ (4 : Int) = w then v else σ 0 (4 : Int)) ≤ _; split <;> omega) (h.tide) (h.table) (h.held) (h.most) (h.away) (h.posts) (h.place) (h.limit) (h.hour) (h.trips) (h.sheet) (h.taken)
theorem Bd_hold (h : Bd σ) {t v lo mid hi : Int} (hv : 0 ≤ v ∧ v ≤ 200) : Bd (hdS σ t v lo mid hi) :=
  Bd_of (h.dim) (h.depth) (h.design) (h.cloud) (h.loose) (h.over) (h.rule) (h.current) (h.tide) (fun i => by have b1 := h.table i; show 0 ≤ (if 8 = 8 ∧ 1 ≤ i ∧ i < lo then min v (σ 8 i) else if 8 = 8 ∧ i = t ∧ mid = 1 then v else if 8 = 8 ∧ t < i ∧ i < hi then max v (σ 8 i) else σ 8 i) ∧ (if 8 = 8 ∧ 1 ≤ i ∧ i < lo then min v (σ 8 i) else if 8 = 8 ∧ i = t ∧ mid = 1 then v else if 8 = 8 ∧ t < i ∧ i < hi then max v (σ 8 i) else σ 8 i) ≤ 200; (repeat' split) <;> omega) (h.held) (h.most) (h.away) (h.posts) (h.place) (h.limit) (h.hour) (h.trips) (h.sheet) (h.taken)
theorem Bd_spot (h : Bd σ) {i m k : Int} (hm : 0 ≤ m ∧ m ≤ 100000) (hk : 1 ≤ k ∧ k ≤ 20) : Bd (st (st σ 11 i m) 12 i k) :=
  Bd_of (h.dim) (h.depth) (h.design) (h.cloud) (h.loose) (h.over) (h.rule) (h.current) (h.tide) (h.table) (h.held) (fun c => by have b1 := h.most c; show _ ≤ (if 11 = 11 ∧ c = i then m else σ 11 c) ∧ (if 11 = 11 ∧ c = i then m else σ 11 c) ≤ _; split <;> omega) (fun s h1 h2 => by have b1 := h.away s h1 h2; show _ ≤ (if 12 = 12 ∧ s = i then k else σ 12 s) ∧ (if 12 = 12 ∧ s = i then k else σ 12 s) ≤ _; split <;> omega) (h.posts) (h.place) (h.limit) (h.hour) (h.trips) (h.sheet) (h.taken)
theorem Bd_post (h : Bd σ) {c q : Int} (hc : 0 ≤ c ∧ c < σ 18 0 * σ 18 1) (hq : 0 ≤ q ∧ q ≤ 10000) (h8 : ¬ 8 ≤ σ 18 6) : Bd (st (st (st (st σ 13 (σ 18 6) c) 14 (σ 18 6) q) 15 (σ 18 6) 0) 18 6 (σ 18 6 + 1)) :=
  Bd_of (h.dim) (h.depth) (h.design) (h.cloud) (h.loose) (h.over) (h.rule) (h.current) (h.tide) (h.table) (h.held) (h.most) (h.away) (by have b1 := h.posts; show 0 ≤ σ 18 6 + 1 ∧ σ 18 6 + 1 ≤ 8; omega) (fun p h1 h2 => by have h2 : p < σ 18 6 + 1 := h2; have b1 := h.place p h1; show 0 ≤ (if 13 = 13 ∧ p = σ 18 6 then c else σ 13 p) ∧ (if 13 = 13 ∧ p = σ 18 6 then c else σ 13 p) < σ 18 0 * σ 18 1; split <;> omega) (fun c => by have b1 := h.limit c; show _ ≤ (if 14 = 14 ∧ c = σ 18 6 then q else σ 14 c) ∧ (if 14 = 14 ∧ c = σ 18 6 then q else σ 14 c) ≤ _; split <;> omega) (h.hour) (h.trips) (h.sheet) (h.taken)
theorem Bd_sound (h : Bd σ) {sh n : Int}  : Bd (tkS σ sh n) :=
  Bd_of (h.dim) (h.depth) (h.design) (h.cloud) (h.loose) (h.over) (h.rule) (h.current) (h.tide) (h.table) (h.held) (h.most) (h.away) (h.posts) (h.place) (h.limit) (h.hour) (h.trips) (fun i => by have b1 := h.sheet i; have b2 := h.depth (i - sh * 120); show -4 ≤ (if 16 = 17 ∧ i = sh then 1 else if 16 = 16 ∧ sh * 120 ≤ i ∧ i < sh * 120 + n then σ 1 (i - sh * 120) else σ 16 i) ∧ (if 16 = 17 ∧ i = sh then 1 else if 16 = 16 ∧ sh * 120 ≤ i ∧ i < sh * 120 + n then σ 1 (i - sh * 120) else σ 16 i) ≤ 400; (repeat' split) <;> omega) (fun i => by have b1 := h.taken i; show 0 ≤ (if 17 = 17 ∧ i = sh then 1 else if 17 = 16 ∧ sh * 120 ≤ i ∧ i < sh * 120 + n then σ 1 (i - sh * 120) else σ 17 i) ∧ (if 17 = 17 ∧ i = sh then 1 else if 17 = 16 ∧ sh * 120 ≤ i ∧ i < sh * 120 + n then σ 1 (i - sh * 120) else σ 17 i) ≤ 1; (repeat' split) <;> omega)
theorem Bd_join (h : Bd σ) {sh tt n : Int}  : Bd (jnS σ sh tt n) :=
  Bd_of (h.dim) (h.depth) (h.design) (h.cloud) (h.loose) (h.over) (h.rule) (h.current) (h.tide) (h.table) (h.held) (h.most) (h.away) (h.posts) (h.place) (h.limit) (h.hour) (h.trips) (fun i => by have b1 := h.sheet i; have b2 := h.sheet (tt * 120 + (i - sh * 120)); show -4 ≤ (if 16 = 16 ∧ sh * 120 ≤ i ∧ i < sh * 120 + n ∧ σ 16 i = -4 ∧ ¬ σ 16 (tt * 120 + (i - sh * 120)) = -4 then σ 16 (tt * 120 + (i - sh * 120)) else σ 16 i) ∧ (if 16 = 16 ∧ sh * 120 ≤ i ∧ i < sh * 120 + n ∧ σ 16 i = -4 ∧ ¬ σ 16 (tt * 120 + (i - sh * 120)) = -4 then σ 16 (tt * 120 + (i - sh * 120)) else σ 16 i) ≤ 400; split <;> omega) (h.taken)
theorem Bd_an {c r : Int} (h1 : ∀ c, 0 ≤ σ 1 c ∧ σ 1 c ≤ 400) (h2 : ∀ c, 0 ≤ σ 2 c ∧ σ 2 c ≤ 300) (h4 : ∀ c, (c < 0 ∨ 120 ≤ c) → σ 4 c = 0) (h5 : ∀ c, 0 ≤ σ 5 c ∧ σ 5 c ≤ 3) (h7 : ∀ c, 0 ≤ σ 7 c ∧ σ 7 c ≤ 60) (h8 : ∀ c, 0 ≤ σ 8 c ∧ σ 8 c ≤ 200) (h10 : ∀ c, 0 ≤ σ 10 c ∧ σ 10 c ≤ 100000) (h11 : ∀ c, 0 ≤ σ 11 c ∧ σ 11 c ≤ 100000) (h14 : ∀ c, 0 ≤ σ 14 c ∧ σ 14 c ≤ 10000) (h16 : ∀ c, -4 ≤ σ 16 c ∧ σ 16 c ≤ 400) (h17 : ∀ c, 0 ≤ σ 17 c ∧ σ 17 c ≤ 1) (hc : 1 ≤ c ∧ c ≤ 12 ∧ 1 ≤ r ∧ r ≤ 10) : Inv (anS σ c r) := by
  refine ⟨Bd_of (show Dim (anS σ c r) from ?_) (fun i => by have b1 := h1 i; show _ ≤ (if 1 = 1 ∧ 0 ≤ i ∧ i < 120 then 0 else σ 1 i) ∧ (if 1 = 1 ∧ 0 ≤ i ∧ i < 120 then 0 else σ 1 i) ≤ _; split <;> omega) (fun i => by have b1 := h2 i; show _ ≤ (if 2 = 2 ∧ 0 ≤ i ∧ i < 120 then 0 else σ 2 i) ∧ (if 2 = 2 ∧ 0 ≤ i ∧ i < 120 then 0 else σ 2 i) ≤ _; split <;> omega) (fun i => by have b1 := h4 i; show 0 ≤ (if 4 = 4 ∧ 0 ≤ i ∧ i < 120 then 0 else σ 4 i) ∧ (if 4 = 4 ∧ 0 ≤ i ∧ i < 120 then 0 else σ 4 i) ≤ 5 + 120 * 0; split <;> omega) (fun i => by have b1 := h5 i; show _ ≤ (if 5 = 5 ∧ 0 ≤ i ∧ i < 120 then 0 else σ 5 i) ∧ (if 5 = 5 ∧ 0 ≤ i ∧ i < 120 then 0 else σ 5 i) ≤ _; split <;> omega) (by show 0 ≤ (5 : Int) ∧ (5 : Int) ≤ 50; decide) (fun j h1 h2 => by rcases (show j = 1 ∨ j = 2 ∨ j = 3 by omega) with rfl | rfl | rfl <;> first | (show 0 ≤ (100 : Int) ∧ (100 : Int) ≤ 400; decide) | (show 0 ≤ (50 : Int) ∧ (50 : Int) ≤ 400; decide) | (show 0 ≤ (80 : Int) ∧ (80 : Int) ≤ 400; decide)) (by show -1 ≤ (0 : Int) ∧ (0 : Int) ≤ 1; decide) (fun i => by have b1 := h7 i; show _ ≤ (if 7 = 7 ∧ 0 ≤ i ∧ i < 12 then 0 else σ 7 i) ∧ (if 7 = 7 ∧ 0 ≤ i ∧ i < 12 then 0 else σ 7 i) ≤ _; split <;> omega) (fun i => by have b1 := h8 i; show 0 ≤ (if 8 = 8 ∧ 0 ≤ i ∧ i < 31 then i else σ 8 i) ∧ (if 8 = 8 ∧ 0 ≤ i ∧ i < 31 then i else σ 8 i) ≤ 200; split <;> omega) (fun i => by have b1 := h10 i; show _ ≤ (if 10 = 10 ∧ 0 ≤ i ∧ i < 3 then 0 else σ 10 i) ∧ (if 10 = 10 ∧ 0 ≤ i ∧ i < 3 then 0 else σ 10 i) ≤ _; split <;> omega) (fun i => by have b1 := h11 i; show _ ≤ (if 11 = 11 ∧ 0 ≤ i ∧ i < 3 then 1000 else σ 11 i) ∧ (if 11 = 11 ∧ 0 ≤ i ∧ i < 3 then 1000 else σ 11 i) ≤ _; split <;> omega) (fun s g1 g2 => by show 1 ≤ (if 12 = 12 ∧ 0 ≤ s ∧ s < 3 then 2 else σ 12 s) ∧ (if 12 = 12 ∧ 0 ≤ s ∧ s < 3 then 2 else σ 12 s) ≤ 20; rw [if_pos (by omega)]; decide) (by show 0 ≤ (0 : Int) ∧ (0 : Int) ≤ 8; decide) (fun p g1 g2 => by have g2 : p < 0 := g2; omega) h14 (by show 0 ≤ (0 : Int) ∧ (0 : Int) ≤ 5000; decide) (by show 0 ≤ (0 : Int) ∧ (0 : Int) ≤ 5001; decide) h16 (fun i => by have b1 := h17 i; show _ ≤ (if 17 = 17 ∧ 0 ≤ i ∧ i < 6 then 0 else σ 17 i) ∧ (if 17 = 17 ∧ 0 ≤ i ∧ i < 6 then 0 else σ 17 i) ≤ _; split <;> omega), Int.le_refl 0, fun i hi => ?_⟩
  · exact hc
  · show (if 4 = 4 ∧ 0 ≤ i ∧ i < 120 then 0 else σ 4 i) = 0
    rw [if_neg (by omega)]
    exact h4 i hi
theorem i_board (hI : Inv σ) (a b : Int) : Inv (boardS σ a b).2 := by
  have h := hI.1
  unfold boardS
  split
  · rename_i hc
    exact Bd_an h.depth h.design hI.2.2 h.loose h.tide h.table h.held h.most h.limit h.sheet h.taken hc
  · exact hI
theorem i_z : Inv (anS z0 1 1) := by
  refine Bd_an ?_ ?_ (fun _ _ => rfl) ?_ ?_ ?_ ?_ ?_ ?_ ?_ ?_ (by decide)
  all_goals (intro c; show _ ≤ (0 : Int) ∧ (0 : Int) ≤ _; decide)
theorem e_z : Eqp (anS z1 1 1) (anS z0 1 1) := by
  refine an_eqp (fun k i hp hk => ?_)
  show (if k = 18 ∧ i = 1 then 1 else if k = 18 ∧ i = 0 then 1 else z0 k i) = z0 k i
  rw [if_neg (by omega), if_neg (by omega)]
theorem i_lay (hI : Inv σ) (a b c : Int) : Inv (layS σ a b c).2 := by
  have h := hI.1
  unfold layS
  repeat' split
  all_goals first | exact hI | exact ⟨Bd_lay1 h (by omega), hI.2.1, hI.2.2⟩ | exact ⟨Bd_lay2 h (by omega), hI.2.1, hI.2.2⟩
theorem i_rule (hI : Inv σ) (a b : Int) : Inv (ruleS σ a b).2 := by
  have h := hI.1
  unfold ruleS
  repeat' split
  all_goals first | exact hI | exact ⟨Bd_rule h (by omega), hI.2.1, hI.2.2⟩
theorem i_tide (hI : Inv σ) (a b : Int) : Inv (tideS σ a b).2 := by
  have h := hI.1
  unfold tideS
  repeat' split
  all_goals first | exact hI | exact ⟨Bd_tide h (by omega), hI.2.1, hI.2.2⟩
theorem i_hold (hI : Inv σ) (a b : Int) : Inv (holdS σ a b).2 := by
  have h := hI.1
  unfold holdS
  repeat' split
  all_goals first | exact hI | exact ⟨Bd_hold h (by omega), hI.2.1, hI.2.2⟩
theorem i_spot (hI : Inv σ) (a b c : Int) : Inv (spotS σ a b c).2 := by
  have h := hI.1
  unfold spotS
  repeat' split
  all_goals first | exact hI | exact ⟨Bd_spot h (by omega) (by omega), hI.2.1, hI.2.2⟩
theorem i_post (hI : Inv σ) (a b : Int) : Inv (postS σ a b).2 := by
  have h := hI.1
  unfold postS
  repeat' split
  all_goals first | exact hI | exact ⟨Bd_post h (by omega) (by omega) (by omega), hI.2.1, hI.2.2⟩
theorem i_sound (hI : Inv σ) (a : Int) : Inv (soundS σ a).2 := by
  have h := hI.1
  unfold soundS
  repeat' split
  all_goals first | exact hI | exact ⟨Bd_sound h, hI.2.1, hI.2.2⟩
theorem i_lose (hI : Inv σ) (a b : Int) : Inv (loseS σ a b).2 := by
  have h := hI.1
  unfold loseS
  repeat' split
  all_goals first | exact hI | exact ⟨Bd_lose h, hI.2.1, hI.2.2⟩
theorem i_join (hI : Inv σ) (a b : Int) : Inv (joinS σ a b).2 := by
  have h := hI.1
  unfold joinS
  repeat' split
  all_goals first | exact hI | exact ⟨Bd_join h, hI.2.1, hI.2.2⟩
theorem i_best (hI : Inv σ) (a : Int) : Inv (bestS σ a).2 := by
  unfold bestS
  repeat' split
  all_goals exact hI
theorem i_between (hI : Inv σ) (a b c : Int) : Inv (betweenS σ a b c).2 := by
  unfold betweenS
  repeat' split
  all_goals exact hI
theorem i_sounded (hI : Inv σ) (a b : Int) : Inv (soundedS σ a b).2 := by
  unfold soundedS
  repeat' split
  all_goals exact hI
theorem i_cell (hI : Inv σ) (a b : Int) : Inv (cellS σ a b).2 := by
  unfold cellS
  repeat' split
  all_goals exact hI
theorem i_about (hI : Inv σ) (a b : Int) : Inv (aboutS σ a b).2 := by
  unfold aboutS
  repeat' split
  all_goals exact hI
theorem i_broken (hI : Inv σ) (a : Int) : Inv (brokenS σ a).2 := by
  unfold brokenS
  repeat' split
  all_goals exact hI
theorem i_count (hI : Inv σ) (w : Int) : Inv (countS σ w).2 := hI
theorem i_hours (hI : Inv σ) (n : Int) : Inv (hoursS σ n).2 := by
  have h := hI.1
  unfold hoursS
  split
  · split
    · exact hI
    · have hf := hrN_facts (σ := σ) (n := n) h (by omega) (by omega)
      refine ⟨hf.1, ?_, fun c hc => ?_⟩
      · show hrN σ n 18 8 ≤ hrN σ n 18 7
        have := hI.2.1
        omega
      · exact (hrN_out h (by omega) (by omega) hc).trans (hI.2.2 c hc)
  · exact hI
theorem i_trip (hI : Inv σ) (row a b t s : Int) : Inv (tripS σ row a b t s).2 := by
  have h := hI.1
  have hh := h.hour
  have h8 := hI.2.1
  unfold tripS
  split
  · rename_i hc
    have hw := h.away s (by omega) (by omega)
    have hg := hh_rng (σ := σ) (ld := plS σ row a b t 18 11) hw.1
    have hE := (pl_facts (row := row) (t := t) h (a := a) (b := b) (by omega) (by omega)).1
    have hm := pl_more (row := row) (t := t) h (a := a) (b := b) (by omega) (by omega) (by omega)
    have hmul := h.dim.mul
    split
    · exact hI
    · split
      · exact hI
      · split
        · exact hI
        · rename_i g1 g2 g3
          have hC := Bd_co (s := s) (t := t) h (row := row) (a := a) (b := b) (by omega) (by omega) (by omega) (by omega) (by omega) (by omega)
          have e7 : coS (plS σ row a b t) t s 18 7 = σ 18 7 := (co_hour).trans (qs hE 7 (by decide))
          have e8 : coS (plS σ row a b t) t s 18 8 = σ 18 8 + 1 := by show plS σ row a b t 18 8 + 1 = _; rw [qs hE 8 (by decide)]
          have hf := hrN_facts (n := hhS σ (plS σ row a b t 18 11) (σ 12 s) - σ 18 7) hC (by omega) (by omega)
          refine ⟨hf.1, ?_, fun c hc' => ?_⟩
          · show hrN _ _ 18 8 ≤ hrN _ _ 18 7
            omega
          · refine (hrN_out hC (by omega) (by omega) hc').trans ?_
            show (if 4 = 4 ∧ c = plS σ row a b t 18 12 then _ else plS σ row a b t 4 c) = 0
            rw [if_neg (by omega), q4 hE]
            exact hI.2.2 c hc'
  · exact hI
end BI
