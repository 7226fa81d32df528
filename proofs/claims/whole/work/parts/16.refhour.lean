/-! the reference's hour -/
theorem cell_dec {C R c : Int} (hC : 1 ≤ C) (h0 : 0 ≤ c) (h : c < C * R) : ∃ r x, c = r * C + x ∧ 0 ≤ x ∧ x < C ∧ 0 ≤ r ∧ r < R ∧ c / C = r ∧ c % C = x := by
  refine ⟨c / C, c % C, ?_, Int.emod_nonneg _ (by omega), Int.emod_lt_of_pos _ (by omega), Int.ediv_nonneg h0 (by omega), ?_, rfl, rfl⟩
  · have := Int.mul_ediv_add_emod c C
    rw [Int.mul_comm] at this
    exact this.symm
  · exact Int.ediv_lt_of_lt_mul (by omega) (by rw [Int.mul_comm]; exact h)
theorem in_rng {σ : St} {c : Int} (hd : Dim σ) (h0 : 0 ≤ c) (h : c < σ 18 0 * σ 18 1) (hin : inS σ c) : 0 ≤ c + σ 0 4 ∧ c + σ 0 4 < σ 18 0 * σ 18 1 := by
  obtain ⟨r, x, e, hx0, hx, hr0, hr, -, hm⟩ := cell_dec hd.1 h0 h
  have hc := cell_in hr0 hr hx0 hx
  unfold inS at hin
  rw [hm] at hin
  omega
theorem dr_stepM_in {σ τ : St} {c se mv v1 : Int} (hc0 : 0 ≤ c) (h : DrI σ c τ) (hse : se = seS σ c) (hmv : mv = mvS σ c) (hv1 : v1 = max 0 (σ 1 c - (σ 5 c + seS σ c) / 4)) (hin : inS σ c) :
    DrI σ (c + 1) (st (st (st (st (st τ 6 c (τ 6 c + ((τ 4 c - mv) - se))) 6 (c + σ 0 4) ((st τ 6 c (τ 6 c + ((τ 4 c - mv) - se))) 6 (c + σ 0 4) + mv)) 18 5 (τ 18 5 + se)) 5 c ((τ 5 c + se) % 4)) 1 c v1) := by
  obtain ⟨a4, a51, d0, d1⟩ := dr_at h
  have a5 := (a51 _ (Int.le_refl _)).1
  have hgo : goS σ c = 0 := if_pos hin
  refine dr_next h hc0 (fun k i hp => ?_) (fun j h0 hj => ?_)
  · obtain ⟨p3, p6, p9, ps⟩ := hp
    show (if k = 1 ∧ i = c then v1 else if k = 5 ∧ i = c then (τ 5 c + se) % 4 else if k = 18 ∧ i = 5 then τ 18 5 + se else if k = 6 ∧ i = c + σ 0 4 then _ else if k = 6 ∧ i = c then _ else τ k i) = _
    rw [if_neg (show ¬ (k = 6 ∧ i = c + σ 0 4) from fun z => p6 z.1), if_neg (show ¬ (k = 6 ∧ i = c) from fun z => p6 z.1), hgo, a5, hse]
    by_cases z1 : k = 1 ∧ i = c
    · rw [if_pos z1, if_pos z1, hv1]
    · rw [if_neg z1, if_neg z1]
      by_cases z2 : k = 5 ∧ i = c
      · rw [if_pos z2, if_pos z2]
      · rw [if_neg z2, if_neg z2]
        by_cases z3 : k = 18 ∧ i = 4
        · rw [if_pos z3, if_neg (by omega), z3.1, z3.2]; omega
        · rw [if_neg z3]
  · show (if 6 = 6 ∧ j = c + σ 0 4 then (if 6 = 6 ∧ c + σ 0 4 = c then τ 6 c + ((τ 4 c - mv) - se) else τ 6 (c + σ 0 4)) + mv else if 6 = 6 ∧ j = c then τ 6 c + ((τ 4 c - mv) - se) else τ 6 j) = _
    unfold ctS
    rw [a4, hse, hmv]
    by_cases z : j = c + σ 0 4
    · rw [if_pos ⟨rfl, z⟩, if_pos (show inS σ c ∧ j = c + σ 0 4 from ⟨hin, z⟩), ← z]
      by_cases y : j = c
      · rw [if_pos ⟨rfl, y⟩, if_pos y, y]; omega
      · rw [if_neg (fun w => y w.2), if_neg y]; omega
    · rw [if_neg (fun w => z w.2), if_neg (show ¬ (inS σ c ∧ j = c + σ 0 4) from fun w => z w.2)]
      by_cases y : j = c
      · rw [if_pos ⟨rfl, y⟩, if_pos y, y]; omega
      · rw [if_neg (fun w => y w.2), if_neg y]; omega
theorem dr_stepM_out {σ τ : St} {c se mv v1 : Int} (hc0 : 0 ≤ c) (h : DrI σ c τ) (hse : se = seS σ c) (hmv : mv = mvS σ c) (hv1 : v1 = max 0 (σ 1 c - (σ 5 c + seS σ c) / 4)) (hin : ¬ inS σ c) :
    DrI σ (c + 1) (st (st (st (st (st τ 6 c (τ 6 c + ((τ 4 c - mv) - se))) 18 4 (τ 18 4 + mv)) 18 5 (τ 18 5 + se)) 5 c ((τ 5 c + se) % 4)) 1 c v1) := by
  obtain ⟨a4, a51, d0, d1⟩ := dr_at h
  have a5 := (a51 _ (Int.le_refl _)).1
  have hgo : goS σ c = mvS σ c := if_neg hin
  refine dr_next h hc0 (fun k i hp => ?_) (fun j h0 hj => ?_)
  · obtain ⟨p3, p6, p9, ps⟩ := hp
    show (if k = 1 ∧ i = c then v1 else if k = 5 ∧ i = c then (τ 5 c + se) % 4 else if k = 18 ∧ i = 5 then τ 18 5 + se else if k = 18 ∧ i = 4 then τ 18 4 + mv else if k = 6 ∧ i = c then _ else τ k i) = _
    rw [if_neg (show ¬ (k = 6 ∧ i = c) from fun z => p6 z.1), hgo, a5, hse, hmv]
    by_cases z1 : k = 1 ∧ i = c
    · rw [if_pos z1, if_pos z1, hv1]
    · rw [if_neg z1, if_neg z1]
      by_cases z2 : k = 5 ∧ i = c
      · rw [if_pos z2, if_pos z2]
      · rw [if_neg z2, if_neg z2]
        by_cases z3 : k = 18 ∧ i = 4
        · rw [if_pos z3, if_neg (by omega), if_pos z3]
        · rw [if_neg z3, if_neg z3]
  · show (if 6 = 6 ∧ j = c then τ 6 c + ((τ 4 c - mv) - se) else τ 6 j) = _
    unfold ctS
    rw [a4, hse, hmv, if_neg (show ¬ (inS σ c ∧ j = c + σ 0 4) from fun w => hin w.1)]
    by_cases y : j = c
    · rw [if_pos ⟨rfl, y⟩, if_pos y, y]; omega
    · rw [if_neg (fun w => y w.2), if_neg y]; omega
theorem wtM_yes {σ τ : St} {n : Int} (h : Eqp τ (wtS σ n)) (hn : 0 ≤ n) (hc : τ 14 n < τ 4 (τ 13 n)) : Eqp (st τ 15 n (τ 15 n + 1)) (wtS σ (n + 1)) := by
  have e13 : τ 13 n = σ 13 n := q13 h n
  have e14 : τ 14 n = σ 14 n := q14 h n
  have e4 : τ 4 (τ 13 n) = σ 4 (σ 13 n) := by rw [e13]; exact q4 h _
  rw [← wtS_yes hn (by rw [← e14, ← e4]; exact hc), q15 h n]
  exact st_eqp h _ _ _
theorem wtM_no {σ τ : St} {n : Int} (h : Eqp τ (wtS σ n)) (hn : 0 ≤ n) (hc : ¬ τ 14 n < τ 4 (τ 13 n)) : Eqp (st τ 15 n (τ 15 n + 0)) (wtS σ (n + 1)) := by
  have e13 : τ 13 n = σ 13 n := q13 h n
  have e14 : τ 14 n = σ 14 n := q14 h n
  have e4 : τ 4 (τ 13 n) = σ 4 (σ 13 n) := by rw [e13]; exact q4 h _
  rw [← wtS_no hn (by rw [← e14, ← e4]; exact hc)]
  exact (st_id (by omega)).tr h
theorem dr_hour (σ : St) (h : Int) : Eqp (st (drE σ) 18 7 h) (drE (st σ 18 7 h)) := by
  intro k i hp
  by_cases z : k = 18 ∧ i = 7
  · rw [z.1, z.2]; rfl
  · show (if k = 18 ∧ i = 7 then h else drE σ k i) = _
    rw [if_neg z]
    have e : st σ 18 7 h k i = σ k i := if_neg z
    unfold drE dr2 dr
    rw [e]
    rfl
theorem wt_hour (σ : St) (n h : Int) : Eqp (st (wtS σ n) 18 7 h) (wtS (st σ 18 7 h) n) := by
  intro k i hp
  by_cases z : k = 18 ∧ i = 7
  · rw [z.1, z.2]; rfl
  · show (if k = 18 ∧ i = 7 then h else wtS σ n k i) = _
    rw [if_neg z]
    have e : st σ 18 7 h k i = σ k i := if_neg z
    unfold wtS
    rw [e]
    rfl
theorem hr_M {σ τ : St} (h : Eqp τ (wtS (drE σ) (σ 18 6))) : Eqp (st τ 18 7 (τ 18 7 + 1)) (wtS (drE (st σ 18 7 (σ 18 7 + 1))) (σ 18 6)) := by
  have e7 : τ 18 7 = σ 18 7 := qs h 7 (by decide)
  rw [e7]
  exact ((st_eqp h _ _ _).tr (wt_hour _ _ _)).tr (wtS_eqp (dr_hour _ _) _)
/-! the mean -/
def smM (σ : St) (c : Int) : Int := (if 0 < c % σ 18 0 then σ 1 (c - 1) else 0) + (if c % σ 18 0 < σ 18 0 - 1 then σ 1 (c + 1) else 0) + (if 0 < c / σ 18 0 then σ 1 (c - σ 18 0) else 0) + (if c / σ 18 0 < σ 18 1 - 1 then σ 1 (c + σ 18 0) else 0)
def nbM (σ : St) (c : Int) : Int := (if 0 < c % σ 18 0 then 1 else 0) + (if c % σ 18 0 < σ 18 0 - 1 then 1 else 0) + (if 0 < c / σ 18 0 then 1 else 0) + (if c / σ 18 0 < σ 18 1 - 1 then 1 else 0)
def mnM (σ : St) (c : Int) : Int := if nbM σ c = 0 then -1 else smM σ c / nbM σ c
theorem ite_iff {P Q : Prop} {dP : Decidable P} {dQ : Decidable Q} {a b : Int} (h : P ↔ Q) (hab : P → a = b) : (if P then a else 0) = (if Q then b else 0) := by
  by_cases p : P
  · rw [if_pos p, if_pos (h.mp p), hab p]
  · rw [if_neg p, if_neg (fun q => p (h.mpr q))]
theorem smM_eq {σ : St} {c : Int} (hd : Dim σ) (h0 : 0 ≤ c) (h : c < σ 18 0 * σ 18 1) : smM σ c = smS σ (c / σ 18 0) (c % σ 18 0) ∧ nbM σ c = nbS σ (c / σ 18 0) (c % σ 18 0) := by
  obtain ⟨r, x, e, hx0, hx, hr0, hr, hq, hm⟩ := cell_dec hd.1 h0 h
  unfold smM smS nbM nbS
  rw [hq, hm]
  have m1 : (r + (-1)) * σ 18 0 = r * σ 18 0 - σ 18 0 := by rw [Int.add_mul, Int.neg_mul, Int.one_mul]; omega
  have m2 : (r + 1) * σ 18 0 = r * σ 18 0 + σ 18 0 := by rw [Int.add_mul, Int.one_mul]
  have i1 : (if 0 < x then σ 1 (c - 1) else 0) = (if 0 ≤ x + (-1) ∧ x + (-1) ≤ σ 18 0 - 1 then σ 1 (r * σ 18 0 + (x + (-1))) else 0) := ite_iff (by omega) (fun _ => congrArg (σ 1) (by omega))
  have i2 : (if x < σ 18 0 - 1 then σ 1 (c + 1) else 0) = (if 0 ≤ x + 1 ∧ x + 1 ≤ σ 18 0 - 1 then σ 1 (r * σ 18 0 + (x + 1)) else 0) := ite_iff (by omega) (fun _ => congrArg (σ 1) (by omega))
  have i3 : (if 0 < r then σ 1 (c - σ 18 0) else 0) = (if 0 ≤ r + (-1) ∧ r + (-1) ≤ σ 18 1 - 1 then σ 1 ((r + (-1)) * σ 18 0 + x) else 0) := ite_iff (by omega) (fun _ => congrArg (σ 1) (by omega))
  have i4 : (if r < σ 18 1 - 1 then σ 1 (c + σ 18 0) else 0) = (if 0 ≤ r + 1 ∧ r + 1 ≤ σ 18 1 - 1 then σ 1 ((r + 1) * σ 18 0 + x) else 0) := ite_iff (by omega) (fun _ => congrArg (σ 1) (by omega))
  have j1 : (if 0 < x then (1 : Int) else 0) = (if 0 ≤ x + (-1) ∧ x + (-1) ≤ σ 18 0 - 1 then 1 else 0) := ite_iff (by omega) (fun _ => rfl)
  have j2 : (if x < σ 18 0 - 1 then (1 : Int) else 0) = (if 0 ≤ x + 1 ∧ x + 1 ≤ σ 18 0 - 1 then 1 else 0) := ite_iff (by omega) (fun _ => rfl)
  have j3 : (if 0 < r then (1 : Int) else 0) = (if 0 ≤ r + (-1) ∧ r + (-1) ≤ σ 18 1 - 1 then 1 else 0) := ite_iff (by omega) (fun _ => rfl)
  have j4 : (if r < σ 18 1 - 1 then (1 : Int) else 0) = (if 0 ≤ r + 1 ∧ r + 1 ≤ σ 18 1 - 1 then 1 else 0) := ite_iff (by omega) (fun _ => rfl)
  rw [i1, i2, i3, i4, j1, j2, j3, j4]
  omega
theorem smM_rng {σ : St} {c : Int} (hB : Bd σ) : 0 ≤ smM σ c ∧ smM σ c ≤ 1600 ∧ 0 ≤ nbM σ c ∧ nbM σ c ≤ 4 := by
  have b1 := hB.depth (c - 1); have b2 := hB.depth (c + 1); have b3 := hB.depth (c - σ 18 0); have b4 := hB.depth (c + σ 18 0)
  unfold smM nbM
  refine ⟨?_, ?_, ?_, ?_⟩ <;> ((repeat' split) <;> omega)
theorem mnM_rng {σ : St} {c : Int} (hB : Bd σ) : -1 ≤ mnM σ c ∧ mnM σ c ≤ 1600 := by
  have h := smM_rng (c := c) hB
  unfold mnM
  split
  · omega
  · have h1 : 0 ≤ smM σ c / nbM σ c := Int.ediv_nonneg h.1 h.2.2.1
    have h2 : smM σ c / nbM σ c ≤ smM σ c := Int.ediv_le_self _ h.1
    omega
theorem slM_eq {σ : St} {c : Int} (hB : Bd σ) (h0 : 0 ≤ c) (h : c < σ 18 0 * σ 18 1) : slS σ c = if 0 < σ 2 c ∧ 0 ≤ mnM σ c ∧ mnM σ c < σ 1 c then 1 else 0 := by
  obtain ⟨e1, e2⟩ := smM_eq hB.dim h0 h
  obtain ⟨r, x, e, hx0, hx, hr0, hr, hq, hm⟩ := cell_dec hB.dim.1 h0 h
  have b := smM_rng (c := c) hB
  have b2 := hB.design c
  have ec : c / σ 18 0 * σ 18 0 + c % σ 18 0 = c := by rw [hq, hm]; exact e.symm
  have key : gaS σ (c / σ 18 0) (c % σ 18 0) ↔ 0 < σ 2 c ∧ 0 ≤ mnM σ c ∧ mnM σ c < σ 1 c := by
    unfold gaS mnM
    rw [ec, ← e1, ← e2]
    by_cases z : nbM σ c = 0
    · rw [if_pos z]; omega
    · rw [if_neg z]
      have h1 : 0 ≤ smM σ c / nbM σ c := Int.ediv_nonneg b.1 b.2.2.1
      constructor
      · rintro ⟨p, q, r⟩; exact ⟨by omega, h1, r⟩
      · rintro ⟨p, q, r⟩; exact ⟨by omega, by omega, r⟩
  unfold slS
  by_cases q : gaS σ (c / σ 18 0) (c % σ 18 0)
  · rw [if_pos q, if_pos (key.mp q)]
  · rw [if_neg q, if_neg (fun z => q (key.mpr z))]
theorem slS_le {σ : St} {c : Int} (hB : Bd σ) (h0 : 0 ≤ c) (h : c < σ 18 0 * σ 18 1) : slS σ c ≤ σ 1 c := by
  have b := hB.depth c
  rw [slM_eq hB h0 h]
  split <;> omega
theorem mnM_eqp {σ τ : St} (h : Eqp τ σ) (c : Int) : mnM τ c = mnM σ c := by
  unfold mnM nbM smM
  simp only [q1 h, qs h 0 (by decide), qs h 1 (by decide)]
def SlM (σ : St) (m : Int) (τ : St) : Prop := Eqp τ σ ∧ ∀ j, 0 ≤ j → j < m → τ 6 j = slS σ j
theorem slM_step {σ τ : St} {m v : Int} (h : SlM σ m τ) (hv : v = slS σ m) : SlM σ (m + 1) (st τ 6 m v) := by
  refine ⟨h.1.st npub6, fun j h0 hj => ?_⟩
  show (if 6 = 6 ∧ j = m then v else τ 6 j) = _
  by_cases z : j = m
  · rw [if_pos ⟨rfl, z⟩, hv, z]
  · rw [if_neg (fun w => z w.2), h.2 j h0 (by omega)]
def S2M (σ : St) (m : Int) (τ : St) : Prop := Eqp τ (silS σ m) ∧ ∀ j, 0 ≤ j → j < σ 18 0 * σ 18 1 → τ 6 j = slS σ j
theorem s2M_0 {σ τ : St} (h : SlM σ (σ 18 0 * σ 18 1) τ) : S2M σ 0 τ := by
  refine ⟨fun k i hp => ?_, h.2⟩
  rw [h.1 k i hp]
  unfold silS
  rw [if_neg (by omega), sumI_0]
  split
  · rename_i h; rw [h.1, h.2]; omega
  · rfl
theorem s2M_at {σ τ : St} {m : Int} (h : S2M σ m τ) : τ 1 m = σ 1 m ∧ τ 18 0 = σ 18 0 ∧ τ 18 1 = σ 18 1 := by
  refine ⟨?_, h.1 18 0 (pub_s (by decide)), h.1 18 1 (pub_s (by decide))⟩
  rw [h.1 1 m (pub_k (by decide) (by decide) (by decide) (by decide))]
  unfold silS
  rw [if_neg (by omega), if_neg (by omega)]
theorem s2M_step {σ τ : St} {m : Int} (hB : Bd σ) (h : S2M σ m τ) (hm : 0 ≤ m) (hm2 : m < σ 18 0 * σ 18 1) : S2M σ (m + 1) (st (st τ 1 m (τ 1 m - τ 6 m)) 18 2 (τ 18 2 + τ 6 m)) := by
  refine ⟨fun k i hp => ?_, h.2⟩
  have hk := h.1 k i hp
  have e2 : τ 18 2 = σ 18 2 + sumI (slS σ) m := h.1 18 2 (pub_s (by decide))
  have s2 := sumI_step (f := slS σ) hm
  have hle := slS_le hB hm hm2
  show (if k = 18 ∧ i = 2 then τ 18 2 + τ 6 m else if k = 1 ∧ i = m then τ 1 m - τ 6 m else τ k i) = _
  rw [(s2M_at h).1, h.2 m hm hm2]
  unfold silS at hk ⊢
  by_cases z : k = 18 ∧ i = 2
  · rw [if_pos z, if_neg (by omega), if_pos z]; omega
  · rw [if_neg z]
    by_cases y : k = 1 ∧ i = m
    · rw [if_pos y, if_pos (by omega), y.2]; omega
    · rw [if_neg y, hk, if_neg z, if_neg z]
      by_cases w : k = 1 ∧ 0 ≤ i ∧ i < m
      · rw [if_pos w, if_pos (by omega)]
      · rw [if_neg w, if_neg (by omega)]
def rm_X10_drifts : Room := { frames := 1, cells := 0, slots := 0, locals := 22 }
set_option maxHeartbeats 4000000 in
set_option maxRecDepth 100000 in
theorem c_X10_drifts {l : Launch} {D : va_G} {cI cZ : ClassId} {ad : Nat → Nat} {σ : St}  (hD : ∀ τ, va_D (AD ad 45) (wsM cI cZ ad τ)) (hB : Bd σ) : JMv l yX10_drifts cX10_drifts 7 rm_X10_drifts D [(cI, .int), (cZ, .boolean)] (AD ad 45) (wsM cI cZ ad) [.ref (ad 0)] σ (fun τ => Eqp τ (wtS (drE σ) (σ 18 6))) := by
  refine JMv.of RX10 (by decide +kernel) rfl (Nat.le_of_ble_eq_true rfl) hD ?_
  intro p e s m args below meth c Q J fin H ls hw hl
  generalize ([] : List Loc) = locs at hw ⊢
  have hl : lv_has ls 7 [(0, .ref (ad 0))] := hl
  have hd : Dim _ := hB.dim
  have hd1 := hd.1; have hd2 := hd.2.1; have hd3 := hd.2.2.1; have hd4 := hd.2.2.2; have hm := hd.mul
  have htr := hB.trips; have hcu := hB.current; have hqp := hB.posts
  refine j_aload_n J dX10_drifts_0 rfl (lv_at hl 0 rfl) ?_
  refine mg_10_7 J hw lk_X10_32 dX10_drifts_1 ?_
  refine j_iconst J (4) dX10_drifts_4 ?_
  refine ma_ld_0 J hw (show 0 ≤ 4 ∧ 4 < ((5 : Nat) : Int) from by omega) dX10_drifts_5 ?_
  refine j_istore_n J (lv' := [(1, .int (I (σ 0 4))), (0, .ref (ad 0))]) hl dX10_drifts_6 rfl (by decide) rfl (fun ls hl => ?_)
  refine j_iconst J (0) dX10_drifts_7 ?_
  refine j_istore_n J (lv' := [(2, .int (I 0)), (1, .int (I (σ 0 4))), (0, .ref (ad 0))]) hl dX10_drifts_8 rfl (by decide) rfl (fun ls hl => ?_)
  have L9 : ∀ n : Nat, ∀ (z : Int), (0 ≤ z ∧ z ≤ σ 18 0 * σ 18 1) → ((σ 18 0 * σ 18 1 - z).toNat) < n → ∀ (H : Heap) (locs : List Loc) (ls : Array Slot), jW D (AD ad 45) s.heap (wsM cI cZ ad (fl σ 6 0 z)) H locs → lv_has ls 7 [(2, .int (I z)), (0, .ref (ad 0)), (1, .int (I (σ 0 4)))] → W p l e rm_X10_drifts s m args below meth c H locs 0 0 Q (F0 m 9 ls []) := by
    intro n
    induction n with
    | zero =>
      intro z hz hm H locs ls hw hl
      exact absurd hm (Nat.not_lt_zero _)
    | succ n ih =>
      intro z hz hm H locs ls hw hl
      have ih9 := ih
      refine j_iload_n J dX10_drifts_9 rfl (lv_at hl 0 rfl) ?_
      refine j_aload_n J dX10_drifts_10 rfl (lv_at hl 1 rfl) ?_
      refine mg_10_0 J hw lk_X10_7 dX10_drifts_11 ?_
      refine j_aload_n J dX10_drifts_14 rfl (lv_at hl 1 rfl) ?_
      refine mg_10_1 J hw lk_X10_13 dX10_drifts_15 ?_
      refine j_imul J dX10_drifts_18 ?_
      refine j_icmp_ge J 35 (show rg z by unfold rg; omega) (show rg ((σ 18 0) * (σ 18 1)) by unfold rg; omega) dX10_drifts_19 (by decide) (fun (h_1 : ((σ 18 0) * (σ 18 1)) ≤ z) => ?_) (fun (h_1 : z < ((σ 18 0) * (σ 18 1))) => ?_)
      · refine j_iconst J (0) dX10_drifts_35 ?_
        refine j_istore_n J (lv' := [(2, .int (I 0)), (0, .ref (ad 0)), (1, .int (I (σ 0 4)))]) hl dX10_drifts_36 rfl (by decide) rfl (fun ls hl => ?_)
        have L37 : ∀ n : Nat, ∀ (τ : St) (cl : Int), (0 ≤ cl ∧ cl ≤ σ 18 0 * σ 18 1) → (DrI σ cl τ) → ((σ 18 0 * σ 18 1 - cl).toNat) < n → ∀ (H : Heap) (locs : List Loc) (ls : Array Slot), jW D (AD ad 45) s.heap (wsM cI cZ ad τ) H locs → lv_has ls 7 [(2, .int (I cl)), (0, .ref (ad 0)), (1, .int (I (σ 0 4)))] → W p l e rm_X10_drifts s m args below meth c H locs 0 0 Q (F0 m 37 ls []) := by
          intro n
          induction n with
          | zero =>
            intro τ cl hi0 hQ hm H locs ls hw hl
            exact absurd hm (Nat.not_lt_zero _)
          | succ n ih =>
            intro τ cl hi0 hQ hm H locs ls hw hl
            have ih37 := ih
            have ha := dr_at hQ
            have d0 : τ 18 0 = σ 18 0 := ha.2.2.1
            have d1 : τ 18 1 = σ 18 1 := ha.2.2.2
            have d01 : τ 18 0 * τ 18 1 = σ 18 0 * σ 18 1 := by rw [d0, d1]
            refine j_iload_n J dX10_drifts_37 rfl (lv_at hl 0 rfl) ?_
            refine j_aload_n J dX10_drifts_38 rfl (lv_at hl 1 rfl) ?_
            refine mg_10_0 J hw lk_X10_7 dX10_drifts_39 ?_
            refine j_aload_n J dX10_drifts_42 rfl (lv_at hl 1 rfl) ?_
            refine mg_10_1 J hw lk_X10_13 dX10_drifts_43 ?_
            refine j_imul J dX10_drifts_46 ?_
            refine j_icmp_ge J 220 (show rg cl by unfold rg; omega) (show rg ((τ 18 0) * (τ 18 1)) by unfold rg; omega) dX10_drifts_47 (by decide) (fun (h_2 : ((τ 18 0) * (τ 18 1)) ≤ cl) => ?_) (fun (h_2 : cl < ((τ 18 0) * (τ 18 1))) => ?_)
            · refine j_iconst J (0) dX10_drifts_220 ?_
              refine j_istore_n J (lv' := [(2, .int (I 0)), (0, .ref (ad 0)), (1, .int (I (σ 0 4)))]) hl dX10_drifts_221 rfl (by decide) rfl (fun ls hl => ?_)
              have L222 : ∀ n : Nat, ∀ (τ : St) (i : Int), (0 ≤ i ∧ i ≤ σ 18 0 * σ 18 1) → (D2I σ i τ) → ((σ 18 0 * σ 18 1 - i).toNat) < n → ∀ (H : Heap) (locs : List Loc) (ls : Array Slot), jW D (AD ad 45) s.heap (wsM cI cZ ad τ) H locs → lv_has ls 7 [(2, .int (I i)), (0, .ref (ad 0))] → W p l e rm_X10_drifts s m args below meth c H locs 0 0 Q (F0 m 222 ls []) := by
                intro n
                induction n with
                | zero =>
                  intro τ i hi1 h2 hm H locs ls hw hl
                  exact absurd hm (Nat.not_lt_zero _)
                | succ n ih =>
                  intro τ i hi1 h2 hm H locs ls hw hl
                  have ih222 := ih
                  have d0 : τ 18 0 = σ 18 0 := h2.1 18 0 (pub_s (by decide))
                  have d1 : τ 18 1 = σ 18 1 := h2.1 18 1 (pub_s (by decide))
                  have d01 : τ 18 0 * τ 18 1 = σ 18 0 * σ 18 1 := by rw [d0, d1]
                  refine j_iload_n J dX10_drifts_222 rfl (lv_at hl 0 rfl) ?_
                  refine j_aload_n J dX10_drifts_223 rfl (lv_at hl 1 rfl) ?_
                  refine mg_10_0 J hw lk_X10_7 dX10_drifts_224 ?_
                  refine j_aload_n J dX10_drifts_227 rfl (lv_at hl 1 rfl) ?_
                  refine mg_10_1 J hw lk_X10_13 dX10_drifts_228 ?_
                  refine j_imul J dX10_drifts_231 ?_
                  refine j_icmp_ge J 253 (show rg i by unfold rg; omega) (show rg ((τ 18 0) * (τ 18 1)) by unfold rg; omega) dX10_drifts_232 (by decide) (fun (h_3 : ((τ 18 0) * (τ 18 1)) ≤ i) => ?_) (fun (h_3 : i < ((τ 18 0) * (τ 18 1))) => ?_)
                  · refine j_iconst J (0) dX10_drifts_253 ?_
                    refine j_istore_n J (lv' := [(2, .int (I 0)), (0, .ref (ad 0))]) hl dX10_drifts_254 rfl (by decide) rfl (fun ls hl => ?_)
                    have L255 : ∀ n : Nat, ∀ (τ : St) (po : Int), (0 ≤ po ∧ po ≤ σ 18 6) → (Eqp τ (wtS (drE σ) po)) → ((σ 18 6 - po).toNat) < n → ∀ (H : Heap) (locs : List Loc) (ls : Array Slot), jW D (AD ad 45) s.heap (wsM cI cZ ad τ) H locs → lv_has ls 7 [(2, .int (I po)), (0, .ref (ad 0))] → W p l e rm_X10_drifts s m args below meth c H locs 0 0 Q (F0 m 255 ls []) := by
                      intro n
                      induction n with
                      | zero =>
                        intro τ po hpo hE hm H locs ls hw hl
                        exact absurd hm (Nat.not_lt_zero _)
                      | succ n ih =>
                        intro τ po hpo hE hm H locs ls hw hl
                        have ih255 := ih
                        have e6 : τ 18 6 = σ 18 6 := qs hE 6 (by decide)
                        refine j_iload_n J dX10_drifts_255 rfl (lv_at hl 0 rfl) ?_
                        refine j_aload_n J dX10_drifts_256 rfl (lv_at hl 1 rfl) ?_
                        refine mg_10_13 J hw lk_X10_73 dX10_drifts_257 ?_
                        refine j_icmp_ge J 303 (show rg po by unfold rg; omega) (show rg (τ 18 6) by unfold rg; omega) dX10_drifts_260 (by decide) (fun (h_4 : (τ 18 6) ≤ po) => ?_) (fun (h_4 : po < (τ 18 6)) => ?_)
                        · exact fin (τ) _ _ _ _ dX10_drifts_303 (by rw [show σ 18 6 = po by omega]; exact hE) hw
                        · have hBw := (Bd_wt po (Bd_dr hB)).eqp hE
                          have e13 : τ 13 po = σ 13 po := q13 hE po
                          have bp := hB.place po hpo.1 (by omega)
                          have b8 : τ 18 8 = σ 18 8 := qs hE 8 (by decide)
                          have bc := hBw.cloud (τ 13 po); have bl := hBw.limit po
                          refine j_aload_n J dX10_drifts_263 rfl (lv_at hl 1 rfl) ?_
                          refine mg_10_16 J hw lk_X10_56 dX10_drifts_264 ?_
                          refine j_iload_n J dX10_drifts_267 rfl (lv_at hl 0 rfl) ?_
                          refine j_dup2 J dX10_drifts_268 rfl rfl ?_
                          refine ma_ld_15 J hw (show 0 ≤ po ∧ po < ((8 : Nat) : Int) from by omega) dX10_drifts_269 ?_
                          refine j_aload_n J dX10_drifts_270 rfl (lv_at hl 1 rfl) ?_
                          refine mg_10_4 J hw lk_X10_23 dX10_drifts_271 ?_
                          refine j_aload_n J dX10_drifts_274 rfl (lv_at hl 1 rfl) ?_
                          refine mg_10_14 J hw lk_X10_50 dX10_drifts_275 ?_
                          refine j_iload_n J dX10_drifts_278 rfl (lv_at hl 0 rfl) ?_
                          refine ma_ld_13 J hw (show 0 ≤ po ∧ po < ((8 : Nat) : Int) from by omega) dX10_drifts_279 ?_
                          refine ma_ld_4 J hw (show 0 ≤ τ 13 po ∧ (τ 13 po) < ((120 : Nat) : Int) from by omega) dX10_drifts_280 ?_
                          refine j_aload_n J dX10_drifts_281 rfl (lv_at hl 1 rfl) ?_
                          refine mg_10_15 J hw lk_X10_53 dX10_drifts_282 ?_
                          refine j_iload_n J dX10_drifts_285 rfl (lv_at hl 0 rfl) ?_
                          refine ma_ld_14 J hw (show 0 ≤ po ∧ po < ((8 : Nat) : Int) from by omega) dX10_drifts_286 ?_
                          refine j_icmp_le J 294 (show rg (τ 4 (τ 13 po)) by unfold rg; omega) (show rg (τ 14 po) by unfold rg; omega) dX10_drifts_287 (by decide) (fun (h_5 : (τ 4 (τ 13 po)) ≤ (τ 14 po)) => ?_) (fun (h_5 : (τ 14 po) < (τ 4 (τ 13 po))) => ?_)
                          · refine j_iconst J (0) dX10_drifts_294 ?_
                            refine j_iadd J dX10_drifts_295 ?_
                            refine ma_st_15 J hw (show 0 ≤ po ∧ po < ((8 : Nat) : Int) from by omega) dX10_drifts_296 (fun H locs hw => ?_)
                            refine j_iinc J (lv' := [(2, .int (I (po + 1))), (0, .ref (ad 0))]) (k := 0) hl dX10_drifts_297 rfl (by decide) rfl (fun ls hl => ?_)
                            refine j_goto J 255 dX10_drifts_300 (by decide) ?_
                            exact ih255 (st τ 15 po ((τ 15 po) + 0)) (po + 1) (by omega) (by first | exact wtM_yes hE hpo.1 (by omega) | exact wtM_no hE hpo.1 (by omega)) (by omega) _ _ _ hw (lv_sub hl [0, 1] rfl)
                          · refine j_iconst J (1) dX10_drifts_290 ?_
                            refine j_goto J 295 dX10_drifts_291 (by decide) ?_
                            refine j_iadd J dX10_drifts_295 ?_
                            refine ma_st_15 J hw (show 0 ≤ po ∧ po < ((8 : Nat) : Int) from by omega) dX10_drifts_296 (fun H locs hw => ?_)
                            refine j_iinc J (lv' := [(2, .int (I (po + 1))), (0, .ref (ad 0))]) (k := 0) hl dX10_drifts_297 rfl (by decide) rfl (fun ls hl => ?_)
                            refine j_goto J 255 dX10_drifts_300 (by decide) ?_
                            exact ih255 (st τ 15 po ((τ 15 po) + 1)) (po + 1) (by omega) (by first | exact wtM_yes hE hpo.1 (by omega) | exact wtM_no hE hpo.1 (by omega)) (by omega) _ _ _ hw (lv_sub hl [0, 1] rfl)
                    exact L255 _ τ 0 (by omega) (by rw [wtS_0]; have e9 : i = σ 18 0 * σ 18 1 := (by omega); rw [e9] at h2; exact h2.1) (Nat.lt_succ_self _) _ _ _ hw (lv_sub hl [0, 1] rfl)
                  · refine j_aload_n J dX10_drifts_235 rfl (lv_at hl 1 rfl) ?_
                    refine mg_10_4 J hw lk_X10_23 dX10_drifts_236 ?_
                    refine j_iload_n J dX10_drifts_239 rfl (lv_at hl 0 rfl) ?_
                    refine j_aload_n J dX10_drifts_240 rfl (lv_at hl 1 rfl) ?_
                    refine mg_10_6 J hw lk_X10_29 dX10_drifts_241 ?_
                    refine j_iload_n J dX10_drifts_244 rfl (lv_at hl 0 rfl) ?_
                    refine ma_ld_6 J hw (show 0 ≤ i ∧ i < ((120 : Nat) : Int) from by omega) dX10_drifts_245 ?_
                    refine ma_st_4 J hw (show 0 ≤ i ∧ i < ((120 : Nat) : Int) from by omega) dX10_drifts_246 (fun H locs hw => ?_)
                    refine j_iinc J (lv' := [(2, .int (I (i + 1))), (0, .ref (ad 0))]) (k := 0) hl dX10_drifts_247 rfl (by decide) rfl (fun ls hl => ?_)
                    refine j_goto J 222 dX10_drifts_250 (by decide) ?_
                    exact ih222 (st τ 4 i (τ 6 i)) (i + 1) (by omega) (d2_step h2 hi1.1 (by omega)) (by omega) _ _ _ hw (lv_sub hl [0, 1] rfl)
              exact L222 _ τ 0 (by omega) (d2_0 (by rw [show σ 18 0 * σ 18 1 = cl by omega]; exact hQ)) (Nat.lt_succ_self _) _ _ _ hw (lv_sub hl [0, 1] rfl)
            · have hm0 := Int.emod_nonneg cl (show σ 18 0 ≠ 0 by omega)
              have hm1 := Int.emod_lt_of_pos cl (show 0 < σ 18 0 by omega)
              have a4 := ha.1 cl
              have a5 := (ha.2.1 _ (Int.le_refl _)).1
              have a1 := (ha.2.1 _ (Int.le_refl _)).2
              have b4 := hB.cloud cl; have b5 := hB.loose cl; have b1 := hB.depth cl
              refine j_iload_n J dX10_drifts_50 rfl (lv_at hl 2 rfl) ?_
              refine j_if_ne J 58 (show rg (σ 0 4) by unfold rg; omega) dX10_drifts_51 (by decide) (fun (h_6 : ¬ (σ 0 4) = 0) => ?_) (fun (h_6 : (σ 0 4) = 0) => ?_)
              · refine j_aload_n J dX10_drifts_58 rfl (lv_at hl 1 rfl) ?_
                refine mg_10_4 J hw lk_X10_23 dX10_drifts_59 ?_
                refine j_iload_n J dX10_drifts_62 rfl (lv_at hl 0 rfl) ?_
                refine ma_ld_4 J hw (show 0 ≤ cl ∧ cl < ((120 : Nat) : Int) from by omega) dX10_drifts_63 ?_
                refine j_iconst J (2) dX10_drifts_64 ?_
                refine j_idiv J (show 0 ≤ τ 4 cl ∧ (τ 4 cl) < 2147483648 ∧ 0 < 2 ∧ 2 < 2147483648 from by omega) dX10_drifts_65 ?_
                refine j_istore_n J (lv' := [(3, .int (I ((τ 4 cl) / 2))), (2, .int (I cl)), (0, .ref (ad 0)), (1, .int (I (σ 0 4)))]) hl dX10_drifts_66 rfl (by decide) rfl (fun ls hl => ?_)
                refine j_aload_n J dX10_drifts_67 rfl (lv_at hl 2 rfl) ?_
                refine mg_10_4 J hw lk_X10_23 dX10_drifts_68 ?_
                refine j_iload_n J dX10_drifts_71 rfl (lv_at hl 1 rfl) ?_
                refine ma_ld_4 J hw (show 0 ≤ cl ∧ cl < ((120 : Nat) : Int) from by omega) dX10_drifts_72 ?_
                refine j_iconst J (4) dX10_drifts_73 ?_
                refine j_idiv J (show 0 ≤ τ 4 cl ∧ (τ 4 cl) < 2147483648 ∧ 0 < 4 ∧ 4 < 2147483648 from by omega) dX10_drifts_74 ?_
                refine j_istore J (lv' := [(4, .int (I ((τ 4 cl) / 4))), (3, .int (I ((τ 4 cl) / 2))), (2, .int (I cl)), (0, .ref (ad 0)), (1, .int (I (σ 0 4)))]) hl dX10_drifts_75 (by decide) rfl (fun ls hl => ?_)
                refine j_aload_n J dX10_drifts_77 rfl (lv_at hl 3 rfl) ?_
                refine mg_10_6 J hw lk_X10_29 dX10_drifts_78 ?_
                refine j_iload_n J dX10_drifts_81 rfl (lv_at hl 2 rfl) ?_
                refine j_dup2 J dX10_drifts_82 rfl rfl ?_
                refine ma_ld_6 J hw (show 0 ≤ cl ∧ cl < ((120 : Nat) : Int) from by omega) dX10_drifts_83 ?_
                refine j_aload_n J dX10_drifts_84 rfl (lv_at hl 3 rfl) ?_
                refine mg_10_4 J hw lk_X10_23 dX10_drifts_85 ?_
                refine j_iload_n J dX10_drifts_88 rfl (lv_at hl 2 rfl) ?_
                refine ma_ld_4 J hw (show 0 ≤ cl ∧ cl < ((120 : Nat) : Int) from by omega) dX10_drifts_89 ?_
                refine j_iload_n J dX10_drifts_90 rfl (lv_at hl 1 rfl) ?_
                refine j_isub J dX10_drifts_91 ?_
                refine j_iload J dX10_drifts_92 (lv_at hl 0 rfl) ?_
                refine j_isub J dX10_drifts_94 ?_
                refine j_iadd J dX10_drifts_95 ?_
                refine ma_st_6 J hw (show 0 ≤ cl ∧ cl < ((120 : Nat) : Int) from by omega) dX10_drifts_96 (fun H locs hw => ?_)
                refine j_iload_n J dX10_drifts_97 rfl (lv_at hl 2 rfl) ?_
                refine j_aload_n J dX10_drifts_98 rfl (lv_at hl 3 rfl) ?_
                refine mg_10_0 J hw lk_X10_7 dX10_drifts_99 ?_
                refine j_irem J (show 0 ≤ cl ∧ cl < 2147483648 ∧ 0 < τ 18 0 ∧ (τ 18 0) < 2147483648 from by omega) dX10_drifts_102 ?_
                rw [show (st τ 6 cl ((τ 6 cl) + (((τ 4 cl) - ((τ 4 cl) / 2)) - ((τ 4 cl) / 4)))) 18 0 = σ 18 0 from d0]
                refine j_iload_n J dX10_drifts_103 rfl (lv_at hl 4 rfl) ?_
                refine j_iadd J dX10_drifts_104 ?_
                refine j_istore J (lv' := [(5, .int (I ((cl % σ 18 0) + (σ 0 4)))), (4, .int (I ((τ 4 cl) / 4))), (3, .int (I ((τ 4 cl) / 2))), (2, .int (I cl)), (0, .ref (ad 0)), (1, .int (I (σ 0 4)))]) hl dX10_drifts_105 (by decide) rfl (fun ls hl => ?_)
                refine j_iload J dX10_drifts_107 (lv_at hl 0 rfl) ?_
                refine j_iconst J (0) dX10_drifts_109 ?_
                refine j_aload_n J dX10_drifts_110 rfl (lv_at hl 4 rfl) ?_
                refine mg_10_0 J hw lk_X10_7 dX10_drifts_111 ?_
                refine j_iconst J (1) dX10_drifts_114 ?_
                refine j_isub J dX10_drifts_115 ?_
                refine k_X10_in (v := (cl % σ 18 0) + (σ 0 4)) (lo := 0) (hi := (τ 18 0) - 1) (σ := st τ 6 cl ((τ 6 cl) + (((τ 4 cl) - ((τ 4 cl) / 2)) - ((τ 4 cl) / 4)))) hD (show rg ((cl % σ 18 0) + (σ 0 4)) from by unfold rg; omega) (show rg 0 from by unfold rg; omega) (show rg ((τ 18 0) - 1) from by unfold rg; omega) J hw hl.1 lk_X10_69 ⟨Nat.le_of_ble_eq_true rfl, Nat.le_of_ble_eq_true rfl⟩ (Nat.le_of_ble_eq_true rfl) dX10_drifts_116 (fun H locs hw => ?_)
                refine j_ifeqB J 137 dX10_drifts_119 (by decide) (fun (h_7 : ¬ (0 ≤ ((cl % σ 18 0) + (σ 0 4)) ∧ ((cl % σ 18 0) + (σ 0 4)) ≤ ((τ 18 0) - 1))) => ?_) (fun (h_7 : 0 ≤ ((cl % σ 18 0) + (σ 0 4)) ∧ ((cl % σ 18 0) + (σ 0 4)) ≤ ((τ 18 0) - 1)) => ?_)
                · refine j_aload_n J dX10_drifts_137 rfl (lv_at hl 4 rfl) ?_
                  refine j_dup J dX10_drifts_138 rfl ?_
                  refine mg_10_23 J hw lk_X10_88 dX10_drifts_139 ?_
                  refine j_iload_n J dX10_drifts_142 rfl (lv_at hl 2 rfl) ?_
                  refine j_iadd J dX10_drifts_143 ?_
                  refine ms_10_23 J hw lk_X10_88 dX10_drifts_144 (fun H locs hw => ?_)
                  refine j_aload_n J dX10_drifts_147 rfl (lv_at hl 4 rfl) ?_
                  refine j_dup J dX10_drifts_148 rfl ?_
                  refine mg_10_24 J hw lk_X10_91 dX10_drifts_149 ?_
                  refine j_iload J dX10_drifts_152 (lv_at hl 1 rfl) ?_
                  refine j_iadd J dX10_drifts_154 ?_
                  refine ms_10_24 J hw lk_X10_91 dX10_drifts_155 (fun H locs hw => ?_)
                  refine j_aload_n J dX10_drifts_158 rfl (lv_at hl 4 rfl) ?_
                  refine mg_10_5 J hw lk_X10_26 dX10_drifts_159 ?_
                  refine j_iload_n J dX10_drifts_162 rfl (lv_at hl 3 rfl) ?_
                  refine ma_ld_5 J hw (show 0 ≤ cl ∧ cl < ((120 : Nat) : Int) from by omega) dX10_drifts_163 ?_
                  refine j_iload J dX10_drifts_164 (lv_at hl 1 rfl) ?_
                  refine j_iadd J dX10_drifts_166 ?_
                  refine j_istore J (lv' := [(6, .int (I ((τ 5 cl) + ((τ 4 cl) / 4)))), (5, .int (I ((cl % σ 18 0) + (σ 0 4)))), (4, .int (I ((τ 4 cl) / 4))), (3, .int (I ((τ 4 cl) / 2))), (2, .int (I cl)), (0, .ref (ad 0)), (1, .int (I (σ 0 4)))]) hl dX10_drifts_167 (by decide) rfl (fun ls hl => ?_)
                  refine j_aload_n J dX10_drifts_169 rfl (lv_at hl 5 rfl) ?_
                  refine mg_10_5 J hw lk_X10_26 dX10_drifts_170 ?_
                  refine j_iload_n J dX10_drifts_173 rfl (lv_at hl 4 rfl) ?_
                  refine j_iload J dX10_drifts_174 (lv_at hl 0 rfl) ?_
                  refine j_iconst J (4) dX10_drifts_176 ?_
                  refine j_irem J (show 0 ≤ (τ 5 cl) + ((τ 4 cl) / 4) ∧ ((τ 5 cl) + ((τ 4 cl) / 4)) < 2147483648 ∧ 0 < 4 ∧ 4 < 2147483648 from by omega) dX10_drifts_177 ?_
                  refine ma_st_5 J hw (show 0 ≤ cl ∧ cl < ((120 : Nat) : Int) from by omega) dX10_drifts_178 (fun H locs hw => ?_)
                  refine j_aload_n J dX10_drifts_179 rfl (lv_at hl 5 rfl) ?_
                  refine mg_10_2 J hw lk_X10_16 dX10_drifts_180 ?_
                  refine j_iload_n J dX10_drifts_183 rfl (lv_at hl 4 rfl) ?_
                  refine j_dup2 J dX10_drifts_184 rfl rfl ?_
                  refine ma_ld_1 J hw (show 0 ≤ cl ∧ cl < ((120 : Nat) : Int) from by omega) dX10_drifts_185 ?_
                  refine j_iload J dX10_drifts_186 (lv_at hl 0 rfl) ?_
                  refine j_iconst J (4) dX10_drifts_188 ?_
                  refine j_idiv J (show 0 ≤ (τ 5 cl) + ((τ 4 cl) / 4) ∧ ((τ 5 cl) + ((τ 4 cl) / 4)) < 2147483648 ∧ 0 < 4 ∧ 4 < 2147483648 from by omega) dX10_drifts_189 ?_
                  refine j_aload_n J dX10_drifts_190 rfl (lv_at hl 5 rfl) ?_
                  refine mg_10_2 J hw lk_X10_16 dX10_drifts_191 ?_
                  refine j_iload_n J dX10_drifts_194 rfl (lv_at hl 4 rfl) ?_
                  refine ma_ld_1 J hw (show 0 ≤ cl ∧ cl < ((120 : Nat) : Int) from by omega) dX10_drifts_195 ?_
                  refine j_icmp_ge J 206 (show rg (((τ 5 cl) + ((τ 4 cl) / 4)) / 4) by unfold rg; omega) (show rg (τ 1 cl) by unfold rg; omega) dX10_drifts_196 (by decide) (fun (h_8 : (τ 1 cl) ≤ (((τ 5 cl) + ((τ 4 cl) / 4)) / 4)) => ?_) (fun (h_8 : (((τ 5 cl) + ((τ 4 cl) / 4)) / 4) < (τ 1 cl)) => ?_)
                  · refine j_aload_n J dX10_drifts_206 rfl (lv_at hl 5 rfl) ?_
                    refine mg_10_2 J hw lk_X10_16 dX10_drifts_207 ?_
                    refine j_iload_n J dX10_drifts_210 rfl (lv_at hl 4 rfl) ?_
                    refine ma_ld_1 J hw (show 0 ≤ cl ∧ cl < ((120 : Nat) : Int) from by omega) dX10_drifts_211 ?_
                    refine j_isub J dX10_drifts_212 ?_
                    refine ma_st_1 J hw (show 0 ≤ cl ∧ cl < ((120 : Nat) : Int) from by omega) dX10_drifts_213 (fun H locs hw => ?_)
                    refine j_iinc J (lv' := [(2, .int (I (cl + 1))), (6, .int (I ((τ 5 cl) + ((τ 4 cl) / 4)))), (5, .int (I ((cl % σ 18 0) + (σ 0 4)))), (4, .int (I ((τ 4 cl) / 4))), (3, .int (I ((τ 4 cl) / 2))), (0, .ref (ad 0)), (1, .int (I (σ 0 4)))]) (k := 4) hl dX10_drifts_214 rfl (by decide) rfl (fun ls hl => ?_)
                    refine j_goto J 37 dX10_drifts_217 (by decide) ?_
                    exact ih37 (st (st (st (st (st τ 6 cl ((τ 6 cl) + (((τ 4 cl) - ((τ 4 cl) / 2)) - ((τ 4 cl) / 4)))) 18 4 ((τ 18 4) + ((τ 4 cl) / 2))) 18 5 ((τ 18 5) + ((τ 4 cl) / 4))) 5 cl (((τ 5 cl) + ((τ 4 cl) / 4)) % 4)) 1 cl ((τ 1 cl) - (τ 1 cl))) (cl + 1) (by omega) (by first | exact dr_stepM_in hi0.1 hQ (by unfold seS; rw [a4]) (by unfold mvS; first | exact (if_pos (by assumption)).symm | rw [if_neg (by assumption), a4]) (by unfold seS; omega) (by unfold inS; omega) | exact dr_stepM_out hi0.1 hQ (by unfold seS; rw [a4]) (by unfold mvS; first | exact (if_pos (by assumption)).symm | rw [if_neg (by assumption), a4]) (by unfold seS; omega) (by unfold inS; omega)) (by omega) _ _ _ hw (lv_sub hl [0, 5, 6] rfl)
                  · refine j_iload J dX10_drifts_199 (lv_at hl 0 rfl) ?_
                    refine j_iconst J (4) dX10_drifts_201 ?_
                    refine j_idiv J (show 0 ≤ (τ 5 cl) + ((τ 4 cl) / 4) ∧ ((τ 5 cl) + ((τ 4 cl) / 4)) < 2147483648 ∧ 0 < 4 ∧ 4 < 2147483648 from by omega) dX10_drifts_202 ?_
                    refine j_goto J 212 dX10_drifts_203 (by decide) ?_
                    refine j_isub J dX10_drifts_212 ?_
                    refine ma_st_1 J hw (show 0 ≤ cl ∧ cl < ((120 : Nat) : Int) from by omega) dX10_drifts_213 (fun H locs hw => ?_)
                    refine j_iinc J (lv' := [(2, .int (I (cl + 1))), (6, .int (I ((τ 5 cl) + ((τ 4 cl) / 4)))), (5, .int (I ((cl % σ 18 0) + (σ 0 4)))), (4, .int (I ((τ 4 cl) / 4))), (3, .int (I ((τ 4 cl) / 2))), (0, .ref (ad 0)), (1, .int (I (σ 0 4)))]) (k := 4) hl dX10_drifts_214 rfl (by decide) rfl (fun ls hl => ?_)
                    refine j_goto J 37 dX10_drifts_217 (by decide) ?_
                    exact ih37 (st (st (st (st (st τ 6 cl ((τ 6 cl) + (((τ 4 cl) - ((τ 4 cl) / 2)) - ((τ 4 cl) / 4)))) 18 4 ((τ 18 4) + ((τ 4 cl) / 2))) 18 5 ((τ 18 5) + ((τ 4 cl) / 4))) 5 cl (((τ 5 cl) + ((τ 4 cl) / 4)) % 4)) 1 cl ((τ 1 cl) - (((τ 5 cl) + ((τ 4 cl) / 4)) / 4))) (cl + 1) (by omega) (by first | exact dr_stepM_in hi0.1 hQ (by unfold seS; rw [a4]) (by unfold mvS; first | exact (if_pos (by assumption)).symm | rw [if_neg (by assumption), a4]) (by unfold seS; omega) (by unfold inS; omega) | exact dr_stepM_out hi0.1 hQ (by unfold seS; rw [a4]) (by unfold mvS; first | exact (if_pos (by assumption)).symm | rw [if_neg (by assumption), a4]) (by unfold seS; omega) (by unfold inS; omega)) (by omega) _ _ _ hw (lv_sub hl [0, 5, 6] rfl)
                · have hir := in_rng hd hi0.1 (show cl < σ 18 0 * σ 18 1 by omega) (show inS σ cl by unfold inS; omega)
                  refine j_aload_n J dX10_drifts_122 rfl (lv_at hl 4 rfl) ?_
                  refine mg_10_6 J hw lk_X10_29 dX10_drifts_123 ?_
                  refine j_iload_n J dX10_drifts_126 rfl (lv_at hl 3 rfl) ?_
                  refine j_iload_n J dX10_drifts_127 rfl (lv_at hl 5 rfl) ?_
                  refine j_iadd J dX10_drifts_128 ?_
                  refine j_dup2 J dX10_drifts_129 rfl rfl ?_
                  refine ma_ld_6 J hw (show 0 ≤ cl + (σ 0 4) ∧ (cl + (σ 0 4)) < ((120 : Nat) : Int) from by omega) dX10_drifts_130 ?_
                  refine j_iload_n J dX10_drifts_131 rfl (lv_at hl 2 rfl) ?_
                  refine j_iadd J dX10_drifts_132 ?_
                  refine ma_st_6 J hw (show 0 ≤ cl + (σ 0 4) ∧ (cl + (σ 0 4)) < ((120 : Nat) : Int) from by omega) dX10_drifts_133 (fun H locs hw => ?_)
                  refine j_goto J 147 dX10_drifts_134 (by decide) ?_
                  refine j_aload_n J dX10_drifts_147 rfl (lv_at hl 4 rfl) ?_
                  refine j_dup J dX10_drifts_148 rfl ?_
                  refine mg_10_24 J hw lk_X10_91 dX10_drifts_149 ?_
                  refine j_iload J dX10_drifts_152 (lv_at hl 1 rfl) ?_
                  refine j_iadd J dX10_drifts_154 ?_
                  refine ms_10_24 J hw lk_X10_91 dX10_drifts_155 (fun H locs hw => ?_)
                  refine j_aload_n J dX10_drifts_158 rfl (lv_at hl 4 rfl) ?_
                  refine mg_10_5 J hw lk_X10_26 dX10_drifts_159 ?_
                  refine j_iload_n J dX10_drifts_162 rfl (lv_at hl 3 rfl) ?_
                  refine ma_ld_5 J hw (show 0 ≤ cl ∧ cl < ((120 : Nat) : Int) from by omega) dX10_drifts_163 ?_
                  refine j_iload J dX10_drifts_164 (lv_at hl 1 rfl) ?_
                  refine j_iadd J dX10_drifts_166 ?_
                  refine j_istore J (lv' := [(6, .int (I ((τ 5 cl) + ((τ 4 cl) / 4)))), (5, .int (I ((cl % σ 18 0) + (σ 0 4)))), (4, .int (I ((τ 4 cl) / 4))), (3, .int (I ((τ 4 cl) / 2))), (2, .int (I cl)), (0, .ref (ad 0)), (1, .int (I (σ 0 4)))]) hl dX10_drifts_167 (by decide) rfl (fun ls hl => ?_)
                  refine j_aload_n J dX10_drifts_169 rfl (lv_at hl 5 rfl) ?_
                  refine mg_10_5 J hw lk_X10_26 dX10_drifts_170 ?_
                  refine j_iload_n J dX10_drifts_173 rfl (lv_at hl 4 rfl) ?_
                  refine j_iload J dX10_drifts_174 (lv_at hl 0 rfl) ?_
                  refine j_iconst J (4) dX10_drifts_176 ?_
                  refine j_irem J (show 0 ≤ (τ 5 cl) + ((τ 4 cl) / 4) ∧ ((τ 5 cl) + ((τ 4 cl) / 4)) < 2147483648 ∧ 0 < 4 ∧ 4 < 2147483648 from by omega) dX10_drifts_177 ?_
                  refine ma_st_5 J hw (show 0 ≤ cl ∧ cl < ((120 : Nat) : Int) from by omega) dX10_drifts_178 (fun H locs hw => ?_)
                  refine j_aload_n J dX10_drifts_179 rfl (lv_at hl 5 rfl) ?_
                  refine mg_10_2 J hw lk_X10_16 dX10_drifts_180 ?_
                  refine j_iload_n J dX10_drifts_183 rfl (lv_at hl 4 rfl) ?_
                  refine j_dup2 J dX10_drifts_184 rfl rfl ?_
                  refine ma_ld_1 J hw (show 0 ≤ cl ∧ cl < ((120 : Nat) : Int) from by omega) dX10_drifts_185 ?_
                  refine j_iload J dX10_drifts_186 (lv_at hl 0 rfl) ?_
                  refine j_iconst J (4) dX10_drifts_188 ?_
                  refine j_idiv J (show 0 ≤ (τ 5 cl) + ((τ 4 cl) / 4) ∧ ((τ 5 cl) + ((τ 4 cl) / 4)) < 2147483648 ∧ 0 < 4 ∧ 4 < 2147483648 from by omega) dX10_drifts_189 ?_
                  refine j_aload_n J dX10_drifts_190 rfl (lv_at hl 5 rfl) ?_
                  refine mg_10_2 J hw lk_X10_16 dX10_drifts_191 ?_
                  refine j_iload_n J dX10_drifts_194 rfl (lv_at hl 4 rfl) ?_
                  refine ma_ld_1 J hw (show 0 ≤ cl ∧ cl < ((120 : Nat) : Int) from by omega) dX10_drifts_195 ?_
                  refine j_icmp_ge J 206 (show rg (((τ 5 cl) + ((τ 4 cl) / 4)) / 4) by unfold rg; omega) (show rg (τ 1 cl) by unfold rg; omega) dX10_drifts_196 (by decide) (fun (h_9 : (τ 1 cl) ≤ (((τ 5 cl) + ((τ 4 cl) / 4)) / 4)) => ?_) (fun (h_9 : (((τ 5 cl) + ((τ 4 cl) / 4)) / 4) < (τ 1 cl)) => ?_)
                  · refine j_aload_n J dX10_drifts_206 rfl (lv_at hl 5 rfl) ?_
                    refine mg_10_2 J hw lk_X10_16 dX10_drifts_207 ?_
                    refine j_iload_n J dX10_drifts_210 rfl (lv_at hl 4 rfl) ?_
                    refine ma_ld_1 J hw (show 0 ≤ cl ∧ cl < ((120 : Nat) : Int) from by omega) dX10_drifts_211 ?_
                    refine j_isub J dX10_drifts_212 ?_
                    refine ma_st_1 J hw (show 0 ≤ cl ∧ cl < ((120 : Nat) : Int) from by omega) dX10_drifts_213 (fun H locs hw => ?_)
                    refine j_iinc J (lv' := [(2, .int (I (cl + 1))), (6, .int (I ((τ 5 cl) + ((τ 4 cl) / 4)))), (5, .int (I ((cl % σ 18 0) + (σ 0 4)))), (4, .int (I ((τ 4 cl) / 4))), (3, .int (I ((τ 4 cl) / 2))), (0, .ref (ad 0)), (1, .int (I (σ 0 4)))]) (k := 4) hl dX10_drifts_214 rfl (by decide) rfl (fun ls hl => ?_)
                    refine j_goto J 37 dX10_drifts_217 (by decide) ?_
                    exact ih37 (st (st (st (st (st τ 6 cl ((τ 6 cl) + (((τ 4 cl) - ((τ 4 cl) / 2)) - ((τ 4 cl) / 4)))) 6 (cl + (σ 0 4)) (((st τ 6 cl ((τ 6 cl) + (((τ 4 cl) - ((τ 4 cl) / 2)) - ((τ 4 cl) / 4)))) 6 (cl + (σ 0 4))) + ((τ 4 cl) / 2))) 18 5 ((τ 18 5) + ((τ 4 cl) / 4))) 5 cl (((τ 5 cl) + ((τ 4 cl) / 4)) % 4)) 1 cl ((τ 1 cl) - (τ 1 cl))) (cl + 1) (by omega) (by first | exact dr_stepM_in hi0.1 hQ (by unfold seS; rw [a4]) (by unfold mvS; first | exact (if_pos (by assumption)).symm | rw [if_neg (by assumption), a4]) (by unfold seS; omega) (by unfold inS; omega) | exact dr_stepM_out hi0.1 hQ (by unfold seS; rw [a4]) (by unfold mvS; first | exact (if_pos (by assumption)).symm | rw [if_neg (by assumption), a4]) (by unfold seS; omega) (by unfold inS; omega)) (by omega) _ _ _ hw (lv_sub hl [0, 5, 6] rfl)
                  · refine j_iload J dX10_drifts_199 (lv_at hl 0 rfl) ?_
                    refine j_iconst J (4) dX10_drifts_201 ?_
                    refine j_idiv J (show 0 ≤ (τ 5 cl) + ((τ 4 cl) / 4) ∧ ((τ 5 cl) + ((τ 4 cl) / 4)) < 2147483648 ∧ 0 < 4 ∧ 4 < 2147483648 from by omega) dX10_drifts_202 ?_
                    refine j_goto J 212 dX10_drifts_203 (by decide) ?_
                    refine j_isub J dX10_drifts_212 ?_
                    refine ma_st_1 J hw (show 0 ≤ cl ∧ cl < ((120 : Nat) : Int) from by omega) dX10_drifts_213 (fun H locs hw => ?_)
                    refine j_iinc J (lv' := [(2, .int (I (cl + 1))), (6, .int (I ((τ 5 cl) + ((τ 4 cl) / 4)))), (5, .int (I ((cl % σ 18 0) + (σ 0 4)))), (4, .int (I ((τ 4 cl) / 4))), (3, .int (I ((τ 4 cl) / 2))), (0, .ref (ad 0)), (1, .int (I (σ 0 4)))]) (k := 4) hl dX10_drifts_214 rfl (by decide) rfl (fun ls hl => ?_)
                    refine j_goto J 37 dX10_drifts_217 (by decide) ?_
                    exact ih37 (st (st (st (st (st τ 6 cl ((τ 6 cl) + (((τ 4 cl) - ((τ 4 cl) / 2)) - ((τ 4 cl) / 4)))) 6 (cl + (σ 0 4)) (((st τ 6 cl ((τ 6 cl) + (((τ 4 cl) - ((τ 4 cl) / 2)) - ((τ 4 cl) / 4)))) 6 (cl + (σ 0 4))) + ((τ 4 cl) / 2))) 18 5 ((τ 18 5) + ((τ 4 cl) / 4))) 5 cl (((τ 5 cl) + ((τ 4 cl) / 4)) % 4)) 1 cl ((τ 1 cl) - (((τ 5 cl) + ((τ 4 cl) / 4)) / 4))) (cl + 1) (by omega) (by first | exact dr_stepM_in hi0.1 hQ (by unfold seS; rw [a4]) (by unfold mvS; first | exact (if_pos (by assumption)).symm | rw [if_neg (by assumption), a4]) (by unfold seS; omega) (by unfold inS; omega) | exact dr_stepM_out hi0.1 hQ (by unfold seS; rw [a4]) (by unfold mvS; first | exact (if_pos (by assumption)).symm | rw [if_neg (by assumption), a4]) (by unfold seS; omega) (by unfold inS; omega)) (by omega) _ _ _ hw (lv_sub hl [0, 5, 6] rfl)
              · refine j_iconst J (0) dX10_drifts_54 ?_
                refine j_goto J 66 dX10_drifts_55 (by decide) ?_
                refine j_istore_n J (lv' := [(3, .int (I 0)), (2, .int (I cl)), (0, .ref (ad 0)), (1, .int (I (σ 0 4)))]) hl dX10_drifts_66 rfl (by decide) rfl (fun ls hl => ?_)
                refine j_aload_n J dX10_drifts_67 rfl (lv_at hl 2 rfl) ?_
                refine mg_10_4 J hw lk_X10_23 dX10_drifts_68 ?_
                refine j_iload_n J dX10_drifts_71 rfl (lv_at hl 1 rfl) ?_
                refine ma_ld_4 J hw (show 0 ≤ cl ∧ cl < ((120 : Nat) : Int) from by omega) dX10_drifts_72 ?_
                refine j_iconst J (4) dX10_drifts_73 ?_
                refine j_idiv J (show 0 ≤ τ 4 cl ∧ (τ 4 cl) < 2147483648 ∧ 0 < 4 ∧ 4 < 2147483648 from by omega) dX10_drifts_74 ?_
                refine j_istore J (lv' := [(4, .int (I ((τ 4 cl) / 4))), (3, .int (I 0)), (2, .int (I cl)), (0, .ref (ad 0)), (1, .int (I (σ 0 4)))]) hl dX10_drifts_75 (by decide) rfl (fun ls hl => ?_)
                refine j_aload_n J dX10_drifts_77 rfl (lv_at hl 3 rfl) ?_
                refine mg_10_6 J hw lk_X10_29 dX10_drifts_78 ?_
                refine j_iload_n J dX10_drifts_81 rfl (lv_at hl 2 rfl) ?_
                refine j_dup2 J dX10_drifts_82 rfl rfl ?_
                refine ma_ld_6 J hw (show 0 ≤ cl ∧ cl < ((120 : Nat) : Int) from by omega) dX10_drifts_83 ?_
                refine j_aload_n J dX10_drifts_84 rfl (lv_at hl 3 rfl) ?_
                refine mg_10_4 J hw lk_X10_23 dX10_drifts_85 ?_
                refine j_iload_n J dX10_drifts_88 rfl (lv_at hl 2 rfl) ?_
                refine ma_ld_4 J hw (show 0 ≤ cl ∧ cl < ((120 : Nat) : Int) from by omega) dX10_drifts_89 ?_
                refine j_iload_n J dX10_drifts_90 rfl (lv_at hl 1 rfl) ?_
                refine j_isub J dX10_drifts_91 ?_
                refine j_iload J dX10_drifts_92 (lv_at hl 0 rfl) ?_
                refine j_isub J dX10_drifts_94 ?_
                refine j_iadd J dX10_drifts_95 ?_
                refine ma_st_6 J hw (show 0 ≤ cl ∧ cl < ((120 : Nat) : Int) from by omega) dX10_drifts_96 (fun H locs hw => ?_)
                refine j_iload_n J dX10_drifts_97 rfl (lv_at hl 2 rfl) ?_
                refine j_aload_n J dX10_drifts_98 rfl (lv_at hl 3 rfl) ?_
                refine mg_10_0 J hw lk_X10_7 dX10_drifts_99 ?_
                refine j_irem J (show 0 ≤ cl ∧ cl < 2147483648 ∧ 0 < τ 18 0 ∧ (τ 18 0) < 2147483648 from by omega) dX10_drifts_102 ?_
                rw [show (st τ 6 cl ((τ 6 cl) + (((τ 4 cl) - 0) - ((τ 4 cl) / 4)))) 18 0 = σ 18 0 from d0]
                refine j_iload_n J dX10_drifts_103 rfl (lv_at hl 4 rfl) ?_
                refine j_iadd J dX10_drifts_104 ?_
                refine j_istore J (lv' := [(5, .int (I ((cl % σ 18 0) + (σ 0 4)))), (4, .int (I ((τ 4 cl) / 4))), (3, .int (I 0)), (2, .int (I cl)), (0, .ref (ad 0)), (1, .int (I (σ 0 4)))]) hl dX10_drifts_105 (by decide) rfl (fun ls hl => ?_)
                refine j_iload J dX10_drifts_107 (lv_at hl 0 rfl) ?_
                refine j_iconst J (0) dX10_drifts_109 ?_
                refine j_aload_n J dX10_drifts_110 rfl (lv_at hl 4 rfl) ?_
                refine mg_10_0 J hw lk_X10_7 dX10_drifts_111 ?_
                refine j_iconst J (1) dX10_drifts_114 ?_
                refine j_isub J dX10_drifts_115 ?_
                refine k_X10_in (v := (cl % σ 18 0) + (σ 0 4)) (lo := 0) (hi := (τ 18 0) - 1) (σ := st τ 6 cl ((τ 6 cl) + (((τ 4 cl) - 0) - ((τ 4 cl) / 4)))) hD (show rg ((cl % σ 18 0) + (σ 0 4)) from by unfold rg; omega) (show rg 0 from by unfold rg; omega) (show rg ((τ 18 0) - 1) from by unfold rg; omega) J hw hl.1 lk_X10_69 ⟨Nat.le_of_ble_eq_true rfl, Nat.le_of_ble_eq_true rfl⟩ (Nat.le_of_ble_eq_true rfl) dX10_drifts_116 (fun H locs hw => ?_)
                refine j_ifeqB J 137 dX10_drifts_119 (by decide) (fun (h_10 : ¬ (0 ≤ ((cl % σ 18 0) + (σ 0 4)) ∧ ((cl % σ 18 0) + (σ 0 4)) ≤ ((τ 18 0) - 1))) => ?_) (fun (h_10 : 0 ≤ ((cl % σ 18 0) + (σ 0 4)) ∧ ((cl % σ 18 0) + (σ 0 4)) ≤ ((τ 18 0) - 1)) => ?_)
                · refine j_aload_n J dX10_drifts_137 rfl (lv_at hl 4 rfl) ?_
                  refine j_dup J dX10_drifts_138 rfl ?_
                  refine mg_10_23 J hw lk_X10_88 dX10_drifts_139 ?_
                  refine j_iload_n J dX10_drifts_142 rfl (lv_at hl 2 rfl) ?_
                  refine j_iadd J dX10_drifts_143 ?_
                  refine ms_10_23 J hw lk_X10_88 dX10_drifts_144 (fun H locs hw => ?_)
                  refine j_aload_n J dX10_drifts_147 rfl (lv_at hl 4 rfl) ?_
                  refine j_dup J dX10_drifts_148 rfl ?_
                  refine mg_10_24 J hw lk_X10_91 dX10_drifts_149 ?_
                  refine j_iload J dX10_drifts_152 (lv_at hl 1 rfl) ?_
                  refine j_iadd J dX10_drifts_154 ?_
                  refine ms_10_24 J hw lk_X10_91 dX10_drifts_155 (fun H locs hw => ?_)
                  refine j_aload_n J dX10_drifts_158 rfl (lv_at hl 4 rfl) ?_
                  refine mg_10_5 J hw lk_X10_26 dX10_drifts_159 ?_
                  refine j_iload_n J dX10_drifts_162 rfl (lv_at hl 3 rfl) ?_
                  refine ma_ld_5 J hw (show 0 ≤ cl ∧ cl < ((120 : Nat) : Int) from by omega) dX10_drifts_163 ?_
                  refine j_iload J dX10_drifts_164 (lv_at hl 1 rfl) ?_
                  refine j_iadd J dX10_drifts_166 ?_
                  refine j_istore J (lv' := [(6, .int (I ((τ 5 cl) + ((τ 4 cl) / 4)))), (5, .int (I ((cl % σ 18 0) + (σ 0 4)))), (4, .int (I ((τ 4 cl) / 4))), (3, .int (I 0)), (2, .int (I cl)), (0, .ref (ad 0)), (1, .int (I (σ 0 4)))]) hl dX10_drifts_167 (by decide) rfl (fun ls hl => ?_)
                  refine j_aload_n J dX10_drifts_169 rfl (lv_at hl 5 rfl) ?_
                  refine mg_10_5 J hw lk_X10_26 dX10_drifts_170 ?_
                  refine j_iload_n J dX10_drifts_173 rfl (lv_at hl 4 rfl) ?_
                  refine j_iload J dX10_drifts_174 (lv_at hl 0 rfl) ?_
                  refine j_iconst J (4) dX10_drifts_176 ?_
                  refine j_irem J (show 0 ≤ (τ 5 cl) + ((τ 4 cl) / 4) ∧ ((τ 5 cl) + ((τ 4 cl) / 4)) < 2147483648 ∧ 0 < 4 ∧ 4 < 2147483648 from by omega) dX10_drifts_177 ?_
                  refine ma_st_5 J hw (show 0 ≤ cl ∧ cl < ((120 : Nat) : Int) from by omega) dX10_drifts_178 (fun H locs hw => ?_)
                  refine j_aload_n J dX10_drifts_179 rfl (lv_at hl 5 rfl) ?_
                  refine mg_10_2 J hw lk_X10_16 dX10_drifts_180 ?_
                  refine j_iload_n J dX10_drifts_183 rfl (lv_at hl 4 rfl) ?_
                  refine j_dup2 J dX10_drifts_184 rfl rfl ?_
                  refine ma_ld_1 J hw (show 0 ≤ cl ∧ cl < ((120 : Nat) : Int) from by omega) dX10_drifts_185 ?_
                  refine j_iload J dX10_drifts_186 (lv_at hl 0 rfl) ?_
                  refine j_iconst J (4) dX10_drifts_188 ?_
                  refine j_idiv J (show 0 ≤ (τ 5 cl) + ((τ 4 cl) / 4) ∧ ((τ 5 cl) + ((τ 4 cl) / 4)) < 2147483648 ∧ 0 < 4 ∧ 4 < 2147483648 from by omega) dX10_drifts_189 ?_
                  refine j_aload_n J dX10_drifts_190 rfl (lv_at hl 5 rfl) ?_
                  refine mg_10_2 J hw lk_X10_16 dX10_drifts_191 ?_
                  refine j_iload_n J dX10_drifts_194 rfl (lv_at hl 4 rfl) ?_
                  refine ma_ld_1 J hw (show 0 ≤ cl ∧ cl < ((120 : Nat) : Int) from by omega) dX10_drifts_195 ?_
                  refine j_icmp_ge J 206 (show rg (((τ 5 cl) + ((τ 4 cl) / 4)) / 4) by unfold rg; omega) (show rg (τ 1 cl) by unfold rg; omega) dX10_drifts_196 (by decide) (fun (h_11 : (τ 1 cl) ≤ (((τ 5 cl) + ((τ 4 cl) / 4)) / 4)) => ?_) (fun (h_11 : (((τ 5 cl) + ((τ 4 cl) / 4)) / 4) < (τ 1 cl)) => ?_)
                  · refine j_aload_n J dX10_drifts_206 rfl (lv_at hl 5 rfl) ?_
                    refine mg_10_2 J hw lk_X10_16 dX10_drifts_207 ?_
                    refine j_iload_n J dX10_drifts_210 rfl (lv_at hl 4 rfl) ?_
                    refine ma_ld_1 J hw (show 0 ≤ cl ∧ cl < ((120 : Nat) : Int) from by omega) dX10_drifts_211 ?_
                    refine j_isub J dX10_drifts_212 ?_
                    refine ma_st_1 J hw (show 0 ≤ cl ∧ cl < ((120 : Nat) : Int) from by omega) dX10_drifts_213 (fun H locs hw => ?_)
                    refine j_iinc J (lv' := [(2, .int (I (cl + 1))), (6, .int (I ((τ 5 cl) + ((τ 4 cl) / 4)))), (5, .int (I ((cl % σ 18 0) + (σ 0 4)))), (4, .int (I ((τ 4 cl) / 4))), (3, .int (I 0)), (0, .ref (ad 0)), (1, .int (I (σ 0 4)))]) (k := 4) hl dX10_drifts_214 rfl (by decide) rfl (fun ls hl => ?_)
                    refine j_goto J 37 dX10_drifts_217 (by decide) ?_
                    exact ih37 (st (st (st (st (st τ 6 cl ((τ 6 cl) + (((τ 4 cl) - 0) - ((τ 4 cl) / 4)))) 18 4 ((τ 18 4) + 0)) 18 5 ((τ 18 5) + ((τ 4 cl) / 4))) 5 cl (((τ 5 cl) + ((τ 4 cl) / 4)) % 4)) 1 cl ((τ 1 cl) - (τ 1 cl))) (cl + 1) (by omega) (by first | exact dr_stepM_in hi0.1 hQ (by unfold seS; rw [a4]) (by unfold mvS; first | exact (if_pos (by assumption)).symm | rw [if_neg (by assumption), a4]) (by unfold seS; omega) (by unfold inS; omega) | exact dr_stepM_out hi0.1 hQ (by unfold seS; rw [a4]) (by unfold mvS; first | exact (if_pos (by assumption)).symm | rw [if_neg (by assumption), a4]) (by unfold seS; omega) (by unfold inS; omega)) (by omega) _ _ _ hw (lv_sub hl [0, 5, 6] rfl)
                  · refine j_iload J dX10_drifts_199 (lv_at hl 0 rfl) ?_
                    refine j_iconst J (4) dX10_drifts_201 ?_
                    refine j_idiv J (show 0 ≤ (τ 5 cl) + ((τ 4 cl) / 4) ∧ ((τ 5 cl) + ((τ 4 cl) / 4)) < 2147483648 ∧ 0 < 4 ∧ 4 < 2147483648 from by omega) dX10_drifts_202 ?_
                    refine j_goto J 212 dX10_drifts_203 (by decide) ?_
                    refine j_isub J dX10_drifts_212 ?_
                    refine ma_st_1 J hw (show 0 ≤ cl ∧ cl < ((120 : Nat) : Int) from by omega) dX10_drifts_213 (fun H locs hw => ?_)
                    refine j_iinc J (lv' := [(2, .int (I (cl + 1))), (6, .int (I ((τ 5 cl) + ((τ 4 cl) / 4)))), (5, .int (I ((cl % σ 18 0) + (σ 0 4)))), (4, .int (I ((τ 4 cl) / 4))), (3, .int (I 0)), (0, .ref (ad 0)), (1, .int (I (σ 0 4)))]) (k := 4) hl dX10_drifts_214 rfl (by decide) rfl (fun ls hl => ?_)
                    refine j_goto J 37 dX10_drifts_217 (by decide) ?_
                    exact ih37 (st (st (st (st (st τ 6 cl ((τ 6 cl) + (((τ 4 cl) - 0) - ((τ 4 cl) / 4)))) 18 4 ((τ 18 4) + 0)) 18 5 ((τ 18 5) + ((τ 4 cl) / 4))) 5 cl (((τ 5 cl) + ((τ 4 cl) / 4)) % 4)) 1 cl ((τ 1 cl) - (((τ 5 cl) + ((τ 4 cl) / 4)) / 4))) (cl + 1) (by omega) (by first | exact dr_stepM_in hi0.1 hQ (by unfold seS; rw [a4]) (by unfold mvS; first | exact (if_pos (by assumption)).symm | rw [if_neg (by assumption), a4]) (by unfold seS; omega) (by unfold inS; omega) | exact dr_stepM_out hi0.1 hQ (by unfold seS; rw [a4]) (by unfold mvS; first | exact (if_pos (by assumption)).symm | rw [if_neg (by assumption), a4]) (by unfold seS; omega) (by unfold inS; omega)) (by omega) _ _ _ hw (lv_sub hl [0, 5, 6] rfl)
                · have hir := in_rng hd hi0.1 (show cl < σ 18 0 * σ 18 1 by omega) (show inS σ cl by unfold inS; omega)
                  refine j_aload_n J dX10_drifts_122 rfl (lv_at hl 4 rfl) ?_
                  refine mg_10_6 J hw lk_X10_29 dX10_drifts_123 ?_
                  refine j_iload_n J dX10_drifts_126 rfl (lv_at hl 3 rfl) ?_
                  refine j_iload_n J dX10_drifts_127 rfl (lv_at hl 5 rfl) ?_
                  refine j_iadd J dX10_drifts_128 ?_
                  refine j_dup2 J dX10_drifts_129 rfl rfl ?_
                  refine ma_ld_6 J hw (show 0 ≤ cl + (σ 0 4) ∧ (cl + (σ 0 4)) < ((120 : Nat) : Int) from by omega) dX10_drifts_130 ?_
                  refine j_iload_n J dX10_drifts_131 rfl (lv_at hl 2 rfl) ?_
                  refine j_iadd J dX10_drifts_132 ?_
                  refine ma_st_6 J hw (show 0 ≤ cl + (σ 0 4) ∧ (cl + (σ 0 4)) < ((120 : Nat) : Int) from by omega) dX10_drifts_133 (fun H locs hw => ?_)
                  refine j_goto J 147 dX10_drifts_134 (by decide) ?_
                  refine j_aload_n J dX10_drifts_147 rfl (lv_at hl 4 rfl) ?_
                  refine j_dup J dX10_drifts_148 rfl ?_
                  refine mg_10_24 J hw lk_X10_91 dX10_drifts_149 ?_
                  refine j_iload J dX10_drifts_152 (lv_at hl 1 rfl) ?_
                  refine j_iadd J dX10_drifts_154 ?_
                  refine ms_10_24 J hw lk_X10_91 dX10_drifts_155 (fun H locs hw => ?_)
                  refine j_aload_n J dX10_drifts_158 rfl (lv_at hl 4 rfl) ?_
                  refine mg_10_5 J hw lk_X10_26 dX10_drifts_159 ?_
                  refine j_iload_n J dX10_drifts_162 rfl (lv_at hl 3 rfl) ?_
                  refine ma_ld_5 J hw (show 0 ≤ cl ∧ cl < ((120 : Nat) : Int) from by omega) dX10_drifts_163 ?_
                  refine j_iload J dX10_drifts_164 (lv_at hl 1 rfl) ?_
                  refine j_iadd J dX10_drifts_166 ?_
                  refine j_istore J (lv' := [(6, .int (I ((τ 5 cl) + ((τ 4 cl) / 4)))), (5, .int (I ((cl % σ 18 0) + (σ 0 4)))), (4, .int (I ((τ 4 cl) / 4))), (3, .int (I 0)), (2, .int (I cl)), (0, .ref (ad 0)), (1, .int (I (σ 0 4)))]) hl dX10_drifts_167 (by decide) rfl (fun ls hl => ?_)
                  refine j_aload_n J dX10_drifts_169 rfl (lv_at hl 5 rfl) ?_
                  refine mg_10_5 J hw lk_X10_26 dX10_drifts_170 ?_
                  refine j_iload_n J dX10_drifts_173 rfl (lv_at hl 4 rfl) ?_
                  refine j_iload J dX10_drifts_174 (lv_at hl 0 rfl) ?_
                  refine j_iconst J (4) dX10_drifts_176 ?_
                  refine j_irem J (show 0 ≤ (τ 5 cl) + ((τ 4 cl) / 4) ∧ ((τ 5 cl) + ((τ 4 cl) / 4)) < 2147483648 ∧ 0 < 4 ∧ 4 < 2147483648 from by omega) dX10_drifts_177 ?_
                  refine ma_st_5 J hw (show 0 ≤ cl ∧ cl < ((120 : Nat) : Int) from by omega) dX10_drifts_178 (fun H locs hw => ?_)
                  refine j_aload_n J dX10_drifts_179 rfl (lv_at hl 5 rfl) ?_
                  refine mg_10_2 J hw lk_X10_16 dX10_drifts_180 ?_
                  refine j_iload_n J dX10_drifts_183 rfl (lv_at hl 4 rfl) ?_
                  refine j_dup2 J dX10_drifts_184 rfl rfl ?_
                  refine ma_ld_1 J hw (show 0 ≤ cl ∧ cl < ((120 : Nat) : Int) from by omega) dX10_drifts_185 ?_
                  refine j_iload J dX10_drifts_186 (lv_at hl 0 rfl) ?_
                  refine j_iconst J (4) dX10_drifts_188 ?_
                  refine j_idiv J (show 0 ≤ (τ 5 cl) + ((τ 4 cl) / 4) ∧ ((τ 5 cl) + ((τ 4 cl) / 4)) < 2147483648 ∧ 0 < 4 ∧ 4 < 2147483648 from by omega) dX10_drifts_189 ?_
                  refine j_aload_n J dX10_drifts_190 rfl (lv_at hl 5 rfl) ?_
                  refine mg_10_2 J hw lk_X10_16 dX10_drifts_191 ?_
                  refine j_iload_n J dX10_drifts_194 rfl (lv_at hl 4 rfl) ?_
                  refine ma_ld_1 J hw (show 0 ≤ cl ∧ cl < ((120 : Nat) : Int) from by omega) dX10_drifts_195 ?_
                  refine j_icmp_ge J 206 (show rg (((τ 5 cl) + ((τ 4 cl) / 4)) / 4) by unfold rg; omega) (show rg (τ 1 cl) by unfold rg; omega) dX10_drifts_196 (by decide) (fun (h_12 : (τ 1 cl) ≤ (((τ 5 cl) + ((τ 4 cl) / 4)) / 4)) => ?_) (fun (h_12 : (((τ 5 cl) + ((τ 4 cl) / 4)) / 4) < (τ 1 cl)) => ?_)
                  · refine j_aload_n J dX10_drifts_206 rfl (lv_at hl 5 rfl) ?_
                    refine mg_10_2 J hw lk_X10_16 dX10_drifts_207 ?_
                    refine j_iload_n J dX10_drifts_210 rfl (lv_at hl 4 rfl) ?_
                    refine ma_ld_1 J hw (show 0 ≤ cl ∧ cl < ((120 : Nat) : Int) from by omega) dX10_drifts_211 ?_
                    refine j_isub J dX10_drifts_212 ?_
                    refine ma_st_1 J hw (show 0 ≤ cl ∧ cl < ((120 : Nat) : Int) from by omega) dX10_drifts_213 (fun H locs hw => ?_)
                    refine j_iinc J (lv' := [(2, .int (I (cl + 1))), (6, .int (I ((τ 5 cl) + ((τ 4 cl) / 4)))), (5, .int (I ((cl % σ 18 0) + (σ 0 4)))), (4, .int (I ((τ 4 cl) / 4))), (3, .int (I 0)), (0, .ref (ad 0)), (1, .int (I (σ 0 4)))]) (k := 4) hl dX10_drifts_214 rfl (by decide) rfl (fun ls hl => ?_)
                    refine j_goto J 37 dX10_drifts_217 (by decide) ?_
                    exact ih37 (st (st (st (st (st τ 6 cl ((τ 6 cl) + (((τ 4 cl) - 0) - ((τ 4 cl) / 4)))) 6 (cl + (σ 0 4)) (((st τ 6 cl ((τ 6 cl) + (((τ 4 cl) - 0) - ((τ 4 cl) / 4)))) 6 (cl + (σ 0 4))) + 0)) 18 5 ((τ 18 5) + ((τ 4 cl) / 4))) 5 cl (((τ 5 cl) + ((τ 4 cl) / 4)) % 4)) 1 cl ((τ 1 cl) - (τ 1 cl))) (cl + 1) (by omega) (by first | exact dr_stepM_in hi0.1 hQ (by unfold seS; rw [a4]) (by unfold mvS; first | exact (if_pos (by assumption)).symm | rw [if_neg (by assumption), a4]) (by unfold seS; omega) (by unfold inS; omega) | exact dr_stepM_out hi0.1 hQ (by unfold seS; rw [a4]) (by unfold mvS; first | exact (if_pos (by assumption)).symm | rw [if_neg (by assumption), a4]) (by unfold seS; omega) (by unfold inS; omega)) (by omega) _ _ _ hw (lv_sub hl [0, 5, 6] rfl)
                  · refine j_iload J dX10_drifts_199 (lv_at hl 0 rfl) ?_
                    refine j_iconst J (4) dX10_drifts_201 ?_
                    refine j_idiv J (show 0 ≤ (τ 5 cl) + ((τ 4 cl) / 4) ∧ ((τ 5 cl) + ((τ 4 cl) / 4)) < 2147483648 ∧ 0 < 4 ∧ 4 < 2147483648 from by omega) dX10_drifts_202 ?_
                    refine j_goto J 212 dX10_drifts_203 (by decide) ?_
                    refine j_isub J dX10_drifts_212 ?_
                    refine ma_st_1 J hw (show 0 ≤ cl ∧ cl < ((120 : Nat) : Int) from by omega) dX10_drifts_213 (fun H locs hw => ?_)
                    refine j_iinc J (lv' := [(2, .int (I (cl + 1))), (6, .int (I ((τ 5 cl) + ((τ 4 cl) / 4)))), (5, .int (I ((cl % σ 18 0) + (σ 0 4)))), (4, .int (I ((τ 4 cl) / 4))), (3, .int (I 0)), (0, .ref (ad 0)), (1, .int (I (σ 0 4)))]) (k := 4) hl dX10_drifts_214 rfl (by decide) rfl (fun ls hl => ?_)
                    refine j_goto J 37 dX10_drifts_217 (by decide) ?_
                    exact ih37 (st (st (st (st (st τ 6 cl ((τ 6 cl) + (((τ 4 cl) - 0) - ((τ 4 cl) / 4)))) 6 (cl + (σ 0 4)) (((st τ 6 cl ((τ 6 cl) + (((τ 4 cl) - 0) - ((τ 4 cl) / 4)))) 6 (cl + (σ 0 4))) + 0)) 18 5 ((τ 18 5) + ((τ 4 cl) / 4))) 5 cl (((τ 5 cl) + ((τ 4 cl) / 4)) % 4)) 1 cl ((τ 1 cl) - (((τ 5 cl) + ((τ 4 cl) / 4)) / 4))) (cl + 1) (by omega) (by first | exact dr_stepM_in hi0.1 hQ (by unfold seS; rw [a4]) (by unfold mvS; first | exact (if_pos (by assumption)).symm | rw [if_neg (by assumption), a4]) (by unfold seS; omega) (by unfold inS; omega) | exact dr_stepM_out hi0.1 hQ (by unfold seS; rw [a4]) (by unfold mvS; first | exact (if_pos (by assumption)).symm | rw [if_neg (by assumption), a4]) (by unfold seS; omega) (by unfold inS; omega)) (by omega) _ _ _ hw (lv_sub hl [0, 5, 6] rfl)
        exact L37 _ (fl σ 6 0 z) 0 (by omega) (dr_0 (Eqp.rf.fl (fun _ => npub6)) (fun j h0 hj => if_pos ⟨rfl, h0, by omega⟩)) (Nat.lt_succ_self _) _ _ _ hw (lv_sub hl [0, 1, 2] rfl)
      · refine j_aload_n J dX10_drifts_22 rfl (lv_at hl 1 rfl) ?_
        refine mg_10_6 J hw lk_X10_29 dX10_drifts_23 ?_
        refine j_iload_n J dX10_drifts_26 rfl (lv_at hl 0 rfl) ?_
        refine j_iconst J (0) dX10_drifts_27 ?_
        refine ma_st_6 J hw (show 0 ≤ z ∧ z < ((120 : Nat) : Int) from by omega) dX10_drifts_28 (fun H locs hw => ?_)
        refine j_iinc J (lv' := [(2, .int (I (z + 1))), (0, .ref (ad 0)), (1, .int (I (σ 0 4)))]) (k := 0) hl dX10_drifts_29 rfl (by decide) rfl (fun ls hl => ?_)
        refine j_goto J 9 dX10_drifts_32 (by decide) ?_
        exact ih9 (z + 1) (by omega) (by omega) _ _ _ (by rw [← fl_step hz.1]; exact hw) (lv_sub hl [0, 1, 2] rfl)
  exact L9 _ 0 (by omega) (Nat.lt_succ_self _) _ _ _ (by rw [fl_0]; exact hw) (lv_sub hl [0, 2, 1] rfl)
theorem k_X10_drifts {p : Program} {l : Launch} {e : Env} {R : Room} {s : State} {m : MethodId} {args : Array Value} {below : List Frame} {meth : Method} {c : Code} {H : Heap} {locs : List Loc} {Q : State → Prop} {cc : ByteArray} {pc : Nat} {ls : Array Slot} {rest : List Value} {nL : Nat} {own : String} {D : va_G} {σ : St} {cI cZ : ClassId} {ad : Nat → Nat} {index : Nat}  (hD : ∀ τ, va_D (AD ad 45) (wsM cI cZ ad τ)) (hB : Bd σ) (J : Jx p m c cc nL s args own D [(cI, .int), (cZ, .boolean)] (AD ad 45) (wsM cI cZ ad)) (hw : jW D (AD ad 45) s.heap (wsM cI cZ ad σ) H locs) (hsz : ls.size = nL) (hlk : Cond.methodLink own index yX10_drifts ∈ TBw) (hR : 2 ≤ R.frames ∧ 48 ≤ R.locals) (hroom : (rest.map fun v => v.category).sum ≤ 8) (hdg : decode cc pc = .ok (.invokevirtual index, 3)) (kk : ∀ (τ : St) (H1 : Heap) (locs1 : List Loc), (fun τ => Eqp τ (wtS (drE σ) (σ 18 6))) τ → jW D (AD ad 45) s.heap (wsM cI cZ ad τ) H1 locs1 → W p l e R s m args below meth c H1 locs1 0 0 Q (F0 m (pc + 3) ls rest)) : W p l e R s m args below meth c H locs 0 0 Q (F0 m pc ls (.ref (ad 0) :: rest)) := 
  j_callVv J hw (c_X10_drifts  hD hB) hlk in_X10_drifts se_X10_drifts ini_X10 co_X10_drifts (n := 0) (by decide +kernel) ⟨rfl, rfl, hR.1, hR.2⟩ (j := 0) (ci := 10) rfl rfl rfl rfl hroom hsz ⟨Nat.zero_le _, Nat.zero_le _⟩ rfl hdg kk
def rm_X10_mean : Room := { frames := 0, cells := 0, slots := 0, locals := 0 }
set_option maxHeartbeats 4000000 in
set_option maxRecDepth 100000 in
theorem c_X10_mean {l : Launch} {D : va_G} {cI cZ : ClassId} {ad : Nat → Nat} {σ : St} {cl : Int} (hD : ∀ τ, va_D (AD ad 45) (wsM cI cZ ad τ)) (hB : Bd σ) (hc : 0 ≤ cl ∧ cl < σ 18 0 * σ 18 1) : JMi l yX10_mean cX10_mean 6 (some .int) rm_X10_mean D [(cI, .int), (cZ, .boolean)] (AD ad 45) (wsM cI cZ ad) [.ref (ad 0), .int (I cl)] σ (fun r τ => r = (mnM σ cl) ∧ τ = σ) := by
  refine JMi.of RX10 (by decide +kernel) rfl (Nat.le_of_ble_eq_true rfl) hD ?_
  intro p e s m args below meth c Q J fin H ls hw hl
  generalize ([] : List Loc) = locs at hw ⊢
  have hl : lv_has ls 6 [(0, .ref (ad 0)), (1, .int (I cl))] := hl
  have hd : Dim _ := hB.dim
  have hd1 := hd.1; have hd2 := hd.2.1; have hd3 := hd.2.2.1; have hd4 := hd.2.2.2; have hm := hd.mul
  obtain ⟨r0, x0, hcx, hx0, hx1, hr0, hr1, hdv, hmd⟩ := cell_dec hd1 hc.1 hc.2
  have hci := cell_in hr0 hr1 hx0 hx1
  have hup : 0 < r0 → σ 18 0 ≤ r0 * σ 18 0 := fun h => by have h9 : 0 ≤ (r0 - 1) * σ 18 0 := Int.mul_nonneg (by omega) (by omega); rw [Int.sub_mul, Int.one_mul] at h9; omega
  have hdn : r0 < σ 18 1 - 1 → r0 * σ 18 0 + σ 18 0 + σ 18 0 ≤ σ 18 0 * σ 18 1 := fun h => by have h9 := cell_in (r := r0 + 1) (x := x0) (C := σ 18 0) (R := σ 18 1) (by omega) (by omega) hx0 hx1; rw [Int.add_mul, Int.one_mul] at h9; omega
  have bA := hB.depth (cl - 1); have bB := hB.depth (cl + 1); have bC := hB.depth (cl - σ 18 0); have bD := hB.depth (cl + σ 18 0)
  refine j_iload_n J dX10_mean_0 rfl (lv_at hl 1 rfl) ?_
  refine j_aload_n J dX10_mean_1 rfl (lv_at hl 0 rfl) ?_
  refine mg_10_0 J hw lk_X10_7 dX10_mean_2 ?_
  refine j_irem J (show 0 ≤ cl ∧ cl < 2147483648 ∧ 0 < σ 18 0 ∧ (σ 18 0) < 2147483648 from by omega) dX10_mean_5 ?_
  refine j_istore_n J (lv' := [(2, .int (I (cl % (σ 18 0)))), (0, .ref (ad 0)), (1, .int (I cl))]) hl dX10_mean_6 rfl (by decide) rfl (fun ls hl => ?_)
  refine j_iload_n J dX10_mean_7 rfl (lv_at hl 2 rfl) ?_
  refine j_aload_n J dX10_mean_8 rfl (lv_at hl 1 rfl) ?_
  refine mg_10_0 J hw lk_X10_7 dX10_mean_9 ?_
  refine j_idiv J (show 0 ≤ cl ∧ cl < 2147483648 ∧ 0 < σ 18 0 ∧ (σ 18 0) < 2147483648 from by omega) dX10_mean_12 ?_
  refine j_istore_n J (lv' := [(3, .int (I (cl / (σ 18 0)))), (2, .int (I (cl % (σ 18 0)))), (0, .ref (ad 0)), (1, .int (I cl))]) hl dX10_mean_13 rfl (by decide) rfl (fun ls hl => ?_)
  refine j_iconst J (0) dX10_mean_14 ?_
  refine j_istore J (lv' := [(4, .int (I 0)), (3, .int (I (cl / (σ 18 0)))), (2, .int (I (cl % (σ 18 0)))), (0, .ref (ad 0)), (1, .int (I cl))]) hl dX10_mean_15 (by decide) rfl (fun ls hl => ?_)
  refine j_iconst J (0) dX10_mean_17 ?_
  refine j_istore J (lv' := [(5, .int (I 0)), (4, .int (I 0)), (3, .int (I (cl / (σ 18 0)))), (2, .int (I (cl % (σ 18 0)))), (0, .ref (ad 0)), (1, .int (I cl))]) hl dX10_mean_18 (by decide) rfl (fun ls hl => ?_)
  refine j_iload_n J dX10_mean_20 rfl (lv_at hl 3 rfl) ?_
  refine j_if_le J 40 (show rg (cl % (σ 18 0)) by unfold rg; omega) dX10_mean_21 (by decide) (fun (h_1 : (cl % (σ 18 0)) ≤ 0) => ?_) (fun (h_1 : 0 < (cl % (σ 18 0))) => ?_)
  · refine j_iload_n J dX10_mean_40 rfl (lv_at hl 3 rfl) ?_
    refine j_aload_n J dX10_mean_41 rfl (lv_at hl 4 rfl) ?_
    refine mg_10_0 J hw lk_X10_7 dX10_mean_42 ?_
    refine j_iconst J (1) dX10_mean_45 ?_
    refine j_isub J dX10_mean_46 ?_
    refine j_icmp_ge J 66 (show rg (cl % (σ 18 0)) by unfold rg; omega) (show rg ((σ 18 0) - 1) by unfold rg; omega) dX10_mean_47 (by decide) (fun (h_2 : ((σ 18 0) - 1) ≤ (cl % (σ 18 0))) => ?_) (fun (h_2 : (cl % (σ 18 0)) < ((σ 18 0) - 1)) => ?_)
    · refine j_iload_n J dX10_mean_66 rfl (lv_at hl 2 rfl) ?_
      refine j_if_le J 89 (show rg (cl / (σ 18 0)) by unfold rg; omega) dX10_mean_67 (by decide) (fun (h_3 : (cl / (σ 18 0)) ≤ 0) => ?_) (fun (h_3 : 0 < (cl / (σ 18 0))) => ?_)
      · refine j_iload_n J dX10_mean_89 rfl (lv_at hl 2 rfl) ?_
        refine j_aload_n J dX10_mean_90 rfl (lv_at hl 4 rfl) ?_
        refine mg_10_1 J hw lk_X10_13 dX10_mean_91 ?_
        refine j_iconst J (1) dX10_mean_94 ?_
        refine j_isub J dX10_mean_95 ?_
        refine j_icmp_ge J 118 (show rg (cl / (σ 18 0)) by unfold rg; omega) (show rg ((σ 18 1) - 1) by unfold rg; omega) dX10_mean_96 (by decide) (fun (h_4 : ((σ 18 1) - 1) ≤ (cl / (σ 18 0))) => ?_) (fun (h_4 : (cl / (σ 18 0)) < ((σ 18 1) - 1)) => ?_)
        · refine j_iload J dX10_mean_118 (lv_at hl 1 rfl) ?_
          refine j_if_ne J 127 (by unfold rg; omega) dX10_mean_120 (by decide) (fun (h_5 : ¬ 0 = 0) => absurd h_5 (by omega)) (fun (h_5 : 0 = 0) => ?_)
          refine j_iconst J (-1) dX10_mean_123 ?_
          refine j_goto J 132 dX10_mean_124 (by decide) ?_
          exact fin _ (σ) _ _ _ _ dX10_mean_132 rfl (⟨by unfold mnM; rw [show nbM σ cl = 0 from (by unfold nbM; (repeat' split) <;> omega), show smM σ cl = 0 from (by unfold smM; (repeat' split) <;> omega)]; first | rfl | (rw [if_neg (by omega)]) | (rw [if_pos (by omega)]), rfl⟩) hw
        · refine j_iinc J (lv' := [(4, .int (I 1)), (5, .int (I 0)), (3, .int (I (cl / (σ 18 0)))), (2, .int (I (cl % (σ 18 0)))), (0, .ref (ad 0)), (1, .int (I cl))]) (k := 1) hl dX10_mean_99 rfl (by decide) rfl (fun ls hl => ?_)
          refine j_iload J dX10_mean_102 (lv_at hl 1 rfl) ?_
          refine j_aload_n J dX10_mean_104 rfl (lv_at hl 4 rfl) ?_
          have hdn2 := hdn (by omega)
          refine mg_10_2 J hw lk_X10_16 dX10_mean_105 ?_
          refine j_iload_n J dX10_mean_108 rfl (lv_at hl 5 rfl) ?_
          refine j_aload_n J dX10_mean_109 rfl (lv_at hl 4 rfl) ?_
          refine mg_10_0 J hw lk_X10_7 dX10_mean_110 ?_
          refine j_iadd J dX10_mean_113 ?_
          refine ma_ld_1 J hw (show 0 ≤ cl + (σ 18 0) ∧ (cl + (σ 18 0)) < ((120 : Nat) : Int) from by omega) dX10_mean_114 ?_
          refine j_iadd J dX10_mean_115 ?_
          refine j_istore J (lv' := [(5, .int (I (0 + (σ 1 (cl + (σ 18 0)))))), (4, .int (I 1)), (3, .int (I (cl / (σ 18 0)))), (2, .int (I (cl % (σ 18 0)))), (0, .ref (ad 0)), (1, .int (I cl))]) hl dX10_mean_116 (by decide) rfl (fun ls hl => ?_)
          refine j_iload J dX10_mean_118 (lv_at hl 1 rfl) ?_
          refine j_if_ne J 127 (by unfold rg; omega) dX10_mean_120 (by decide) (fun (h_6 : ¬ 1 = 0) => ?_) (fun (h_6 : 1 = 0) => absurd h_6 (by omega))
          refine j_iload J dX10_mean_127 (lv_at hl 0 rfl) ?_
          refine j_iload J dX10_mean_129 (lv_at hl 1 rfl) ?_
          refine j_idiv J (show 0 ≤ 0 + (σ 1 (cl + (σ 18 0))) ∧ (0 + (σ 1 (cl + (σ 18 0)))) < 2147483648 ∧ 0 < 1 ∧ 1 < 2147483648 from by omega) dX10_mean_131 ?_
          exact fin _ (σ) _ _ _ _ dX10_mean_132 rfl (⟨by unfold mnM; rw [show nbM σ cl = 1 from (by unfold nbM; (repeat' split) <;> omega), show smM σ cl = (0 + (σ 1 (cl + (σ 18 0)))) from (by unfold smM; (repeat' split) <;> omega)]; first | rfl | (rw [if_neg (by omega)]) | (rw [if_pos (by omega)]), rfl⟩) hw
      · refine j_iinc J (lv' := [(4, .int (I 1)), (5, .int (I 0)), (3, .int (I (cl / (σ 18 0)))), (2, .int (I (cl % (σ 18 0)))), (0, .ref (ad 0)), (1, .int (I cl))]) (k := 1) hl dX10_mean_70 rfl (by decide) rfl (fun ls hl => ?_)
        refine j_iload J dX10_mean_73 (lv_at hl 1 rfl) ?_
        refine j_aload_n J dX10_mean_75 rfl (lv_at hl 4 rfl) ?_
        have hup2 := hup (by omega)
        refine mg_10_2 J hw lk_X10_16 dX10_mean_76 ?_
        refine j_iload_n J dX10_mean_79 rfl (lv_at hl 5 rfl) ?_
        refine j_aload_n J dX10_mean_80 rfl (lv_at hl 4 rfl) ?_
        refine mg_10_0 J hw lk_X10_7 dX10_mean_81 ?_
        refine j_isub J dX10_mean_84 ?_
        refine ma_ld_1 J hw (show 0 ≤ cl - (σ 18 0) ∧ (cl - (σ 18 0)) < ((120 : Nat) : Int) from by omega) dX10_mean_85 ?_
        refine j_iadd J dX10_mean_86 ?_
        refine j_istore J (lv' := [(5, .int (I (0 + (σ 1 (cl - (σ 18 0)))))), (4, .int (I 1)), (3, .int (I (cl / (σ 18 0)))), (2, .int (I (cl % (σ 18 0)))), (0, .ref (ad 0)), (1, .int (I cl))]) hl dX10_mean_87 (by decide) rfl (fun ls hl => ?_)
        refine j_iload_n J dX10_mean_89 rfl (lv_at hl 2 rfl) ?_
        refine j_aload_n J dX10_mean_90 rfl (lv_at hl 4 rfl) ?_
        refine mg_10_1 J hw lk_X10_13 dX10_mean_91 ?_
        refine j_iconst J (1) dX10_mean_94 ?_
        refine j_isub J dX10_mean_95 ?_
        refine j_icmp_ge J 118 (show rg (cl / (σ 18 0)) by unfold rg; omega) (show rg ((σ 18 1) - 1) by unfold rg; omega) dX10_mean_96 (by decide) (fun (h_7 : ((σ 18 1) - 1) ≤ (cl / (σ 18 0))) => ?_) (fun (h_7 : (cl / (σ 18 0)) < ((σ 18 1) - 1)) => ?_)
        · refine j_iload J dX10_mean_118 (lv_at hl 1 rfl) ?_
          refine j_if_ne J 127 (by unfold rg; omega) dX10_mean_120 (by decide) (fun (h_8 : ¬ 1 = 0) => ?_) (fun (h_8 : 1 = 0) => absurd h_8 (by omega))
          refine j_iload J dX10_mean_127 (lv_at hl 0 rfl) ?_
          refine j_iload J dX10_mean_129 (lv_at hl 1 rfl) ?_
          refine j_idiv J (show 0 ≤ 0 + (σ 1 (cl - (σ 18 0))) ∧ (0 + (σ 1 (cl - (σ 18 0)))) < 2147483648 ∧ 0 < 1 ∧ 1 < 2147483648 from by omega) dX10_mean_131 ?_
          exact fin _ (σ) _ _ _ _ dX10_mean_132 rfl (⟨by unfold mnM; rw [show nbM σ cl = 1 from (by unfold nbM; (repeat' split) <;> omega), show smM σ cl = (0 + (σ 1 (cl - (σ 18 0)))) from (by unfold smM; (repeat' split) <;> omega)]; first | rfl | (rw [if_neg (by omega)]) | (rw [if_pos (by omega)]), rfl⟩) hw
        · refine j_iinc J (lv' := [(4, .int (I 2)), (5, .int (I (0 + (σ 1 (cl - (σ 18 0)))))), (3, .int (I (cl / (σ 18 0)))), (2, .int (I (cl % (σ 18 0)))), (0, .ref (ad 0)), (1, .int (I cl))]) (k := 1) hl dX10_mean_99 rfl (by decide) rfl (fun ls hl => ?_)
          refine j_iload J dX10_mean_102 (lv_at hl 1 rfl) ?_
          refine j_aload_n J dX10_mean_104 rfl (lv_at hl 4 rfl) ?_
          have hdn2 := hdn (by omega)
          refine mg_10_2 J hw lk_X10_16 dX10_mean_105 ?_
          refine j_iload_n J dX10_mean_108 rfl (lv_at hl 5 rfl) ?_
          refine j_aload_n J dX10_mean_109 rfl (lv_at hl 4 rfl) ?_
          refine mg_10_0 J hw lk_X10_7 dX10_mean_110 ?_
          refine j_iadd J dX10_mean_113 ?_
          refine ma_ld_1 J hw (show 0 ≤ cl + (σ 18 0) ∧ (cl + (σ 18 0)) < ((120 : Nat) : Int) from by omega) dX10_mean_114 ?_
          refine j_iadd J dX10_mean_115 ?_
          refine j_istore J (lv' := [(5, .int (I ((0 + (σ 1 (cl - (σ 18 0)))) + (σ 1 (cl + (σ 18 0)))))), (4, .int (I 2)), (3, .int (I (cl / (σ 18 0)))), (2, .int (I (cl % (σ 18 0)))), (0, .ref (ad 0)), (1, .int (I cl))]) hl dX10_mean_116 (by decide) rfl (fun ls hl => ?_)
          refine j_iload J dX10_mean_118 (lv_at hl 1 rfl) ?_
          refine j_if_ne J 127 (by unfold rg; omega) dX10_mean_120 (by decide) (fun (h_9 : ¬ 2 = 0) => ?_) (fun (h_9 : 2 = 0) => absurd h_9 (by omega))
          refine j_iload J dX10_mean_127 (lv_at hl 0 rfl) ?_
          refine j_iload J dX10_mean_129 (lv_at hl 1 rfl) ?_
          refine j_idiv J (show 0 ≤ (0 + (σ 1 (cl - (σ 18 0)))) + (σ 1 (cl + (σ 18 0))) ∧ ((0 + (σ 1 (cl - (σ 18 0)))) + (σ 1 (cl + (σ 18 0)))) < 2147483648 ∧ 0 < 2 ∧ 2 < 2147483648 from by omega) dX10_mean_131 ?_
          exact fin _ (σ) _ _ _ _ dX10_mean_132 rfl (⟨by unfold mnM; rw [show nbM σ cl = 2 from (by unfold nbM; (repeat' split) <;> omega), show smM σ cl = ((0 + (σ 1 (cl - (σ 18 0)))) + (σ 1 (cl + (σ 18 0)))) from (by unfold smM; (repeat' split) <;> omega)]; first | rfl | (rw [if_neg (by omega)]) | (rw [if_pos (by omega)]), rfl⟩) hw
    · refine j_iinc J (lv' := [(4, .int (I 1)), (5, .int (I 0)), (3, .int (I (cl / (σ 18 0)))), (2, .int (I (cl % (σ 18 0)))), (0, .ref (ad 0)), (1, .int (I cl))]) (k := 1) hl dX10_mean_50 rfl (by decide) rfl (fun ls hl => ?_)
      refine j_iload J dX10_mean_53 (lv_at hl 1 rfl) ?_
      refine j_aload_n J dX10_mean_55 rfl (lv_at hl 4 rfl) ?_
      refine mg_10_2 J hw lk_X10_16 dX10_mean_56 ?_
      refine j_iload_n J dX10_mean_59 rfl (lv_at hl 5 rfl) ?_
      refine j_iconst J (1) dX10_mean_60 ?_
      refine j_iadd J dX10_mean_61 ?_
      refine ma_ld_1 J hw (show 0 ≤ cl + 1 ∧ (cl + 1) < ((120 : Nat) : Int) from by omega) dX10_mean_62 ?_
      refine j_iadd J dX10_mean_63 ?_
      refine j_istore J (lv' := [(5, .int (I (0 + (σ 1 (cl + 1))))), (4, .int (I 1)), (3, .int (I (cl / (σ 18 0)))), (2, .int (I (cl % (σ 18 0)))), (0, .ref (ad 0)), (1, .int (I cl))]) hl dX10_mean_64 (by decide) rfl (fun ls hl => ?_)
      refine j_iload_n J dX10_mean_66 rfl (lv_at hl 2 rfl) ?_
      refine j_if_le J 89 (show rg (cl / (σ 18 0)) by unfold rg; omega) dX10_mean_67 (by decide) (fun (h_10 : (cl / (σ 18 0)) ≤ 0) => ?_) (fun (h_10 : 0 < (cl / (σ 18 0))) => ?_)
      · refine j_iload_n J dX10_mean_89 rfl (lv_at hl 2 rfl) ?_
        refine j_aload_n J dX10_mean_90 rfl (lv_at hl 4 rfl) ?_
        refine mg_10_1 J hw lk_X10_13 dX10_mean_91 ?_
        refine j_iconst J (1) dX10_mean_94 ?_
        refine j_isub J dX10_mean_95 ?_
        refine j_icmp_ge J 118 (show rg (cl / (σ 18 0)) by unfold rg; omega) (show rg ((σ 18 1) - 1) by unfold rg; omega) dX10_mean_96 (by decide) (fun (h_11 : ((σ 18 1) - 1) ≤ (cl / (σ 18 0))) => ?_) (fun (h_11 : (cl / (σ 18 0)) < ((σ 18 1) - 1)) => ?_)
        · refine j_iload J dX10_mean_118 (lv_at hl 1 rfl) ?_
          refine j_if_ne J 127 (by unfold rg; omega) dX10_mean_120 (by decide) (fun (h_12 : ¬ 1 = 0) => ?_) (fun (h_12 : 1 = 0) => absurd h_12 (by omega))
          refine j_iload J dX10_mean_127 (lv_at hl 0 rfl) ?_
          refine j_iload J dX10_mean_129 (lv_at hl 1 rfl) ?_
          refine j_idiv J (show 0 ≤ 0 + (σ 1 (cl + 1)) ∧ (0 + (σ 1 (cl + 1))) < 2147483648 ∧ 0 < 1 ∧ 1 < 2147483648 from by omega) dX10_mean_131 ?_
          exact fin _ (σ) _ _ _ _ dX10_mean_132 rfl (⟨by unfold mnM; rw [show nbM σ cl = 1 from (by unfold nbM; (repeat' split) <;> omega), show smM σ cl = (0 + (σ 1 (cl + 1))) from (by unfold smM; (repeat' split) <;> omega)]; first | rfl | (rw [if_neg (by omega)]) | (rw [if_pos (by omega)]), rfl⟩) hw
        · refine j_iinc J (lv' := [(4, .int (I 2)), (5, .int (I (0 + (σ 1 (cl + 1))))), (3, .int (I (cl / (σ 18 0)))), (2, .int (I (cl % (σ 18 0)))), (0, .ref (ad 0)), (1, .int (I cl))]) (k := 1) hl dX10_mean_99 rfl (by decide) rfl (fun ls hl => ?_)
          refine j_iload J dX10_mean_102 (lv_at hl 1 rfl) ?_
          refine j_aload_n J dX10_mean_104 rfl (lv_at hl 4 rfl) ?_
          have hdn2 := hdn (by omega)
          refine mg_10_2 J hw lk_X10_16 dX10_mean_105 ?_
          refine j_iload_n J dX10_mean_108 rfl (lv_at hl 5 rfl) ?_
          refine j_aload_n J dX10_mean_109 rfl (lv_at hl 4 rfl) ?_
          refine mg_10_0 J hw lk_X10_7 dX10_mean_110 ?_
          refine j_iadd J dX10_mean_113 ?_
          refine ma_ld_1 J hw (show 0 ≤ cl + (σ 18 0) ∧ (cl + (σ 18 0)) < ((120 : Nat) : Int) from by omega) dX10_mean_114 ?_
          refine j_iadd J dX10_mean_115 ?_
          refine j_istore J (lv' := [(5, .int (I ((0 + (σ 1 (cl + 1))) + (σ 1 (cl + (σ 18 0)))))), (4, .int (I 2)), (3, .int (I (cl / (σ 18 0)))), (2, .int (I (cl % (σ 18 0)))), (0, .ref (ad 0)), (1, .int (I cl))]) hl dX10_mean_116 (by decide) rfl (fun ls hl => ?_)
          refine j_iload J dX10_mean_118 (lv_at hl 1 rfl) ?_
          refine j_if_ne J 127 (by unfold rg; omega) dX10_mean_120 (by decide) (fun (h_13 : ¬ 2 = 0) => ?_) (fun (h_13 : 2 = 0) => absurd h_13 (by omega))
          refine j_iload J dX10_mean_127 (lv_at hl 0 rfl) ?_
          refine j_iload J dX10_mean_129 (lv_at hl 1 rfl) ?_
          refine j_idiv J (show 0 ≤ (0 + (σ 1 (cl + 1))) + (σ 1 (cl + (σ 18 0))) ∧ ((0 + (σ 1 (cl + 1))) + (σ 1 (cl + (σ 18 0)))) < 2147483648 ∧ 0 < 2 ∧ 2 < 2147483648 from by omega) dX10_mean_131 ?_
          exact fin _ (σ) _ _ _ _ dX10_mean_132 rfl (⟨by unfold mnM; rw [show nbM σ cl = 2 from (by unfold nbM; (repeat' split) <;> omega), show smM σ cl = ((0 + (σ 1 (cl + 1))) + (σ 1 (cl + (σ 18 0)))) from (by unfold smM; (repeat' split) <;> omega)]; first | rfl | (rw [if_neg (by omega)]) | (rw [if_pos (by omega)]), rfl⟩) hw
      · refine j_iinc J (lv' := [(4, .int (I 2)), (5, .int (I (0 + (σ 1 (cl + 1))))), (3, .int (I (cl / (σ 18 0)))), (2, .int (I (cl % (σ 18 0)))), (0, .ref (ad 0)), (1, .int (I cl))]) (k := 1) hl dX10_mean_70 rfl (by decide) rfl (fun ls hl => ?_)
        refine j_iload J dX10_mean_73 (lv_at hl 1 rfl) ?_
        refine j_aload_n J dX10_mean_75 rfl (lv_at hl 4 rfl) ?_
        have hup2 := hup (by omega)
        refine mg_10_2 J hw lk_X10_16 dX10_mean_76 ?_
        refine j_iload_n J dX10_mean_79 rfl (lv_at hl 5 rfl) ?_
        refine j_aload_n J dX10_mean_80 rfl (lv_at hl 4 rfl) ?_
        refine mg_10_0 J hw lk_X10_7 dX10_mean_81 ?_
        refine j_isub J dX10_mean_84 ?_
        refine ma_ld_1 J hw (show 0 ≤ cl - (σ 18 0) ∧ (cl - (σ 18 0)) < ((120 : Nat) : Int) from by omega) dX10_mean_85 ?_
        refine j_iadd J dX10_mean_86 ?_
        refine j_istore J (lv' := [(5, .int (I ((0 + (σ 1 (cl + 1))) + (σ 1 (cl - (σ 18 0)))))), (4, .int (I 2)), (3, .int (I (cl / (σ 18 0)))), (2, .int (I (cl % (σ 18 0)))), (0, .ref (ad 0)), (1, .int (I cl))]) hl dX10_mean_87 (by decide) rfl (fun ls hl => ?_)
        refine j_iload_n J dX10_mean_89 rfl (lv_at hl 2 rfl) ?_
        refine j_aload_n J dX10_mean_90 rfl (lv_at hl 4 rfl) ?_
        refine mg_10_1 J hw lk_X10_13 dX10_mean_91 ?_
        refine j_iconst J (1) dX10_mean_94 ?_
        refine j_isub J dX10_mean_95 ?_
        refine j_icmp_ge J 118 (show rg (cl / (σ 18 0)) by unfold rg; omega) (show rg ((σ 18 1) - 1) by unfold rg; omega) dX10_mean_96 (by decide) (fun (h_14 : ((σ 18 1) - 1) ≤ (cl / (σ 18 0))) => ?_) (fun (h_14 : (cl / (σ 18 0)) < ((σ 18 1) - 1)) => ?_)
        · refine j_iload J dX10_mean_118 (lv_at hl 1 rfl) ?_
          refine j_if_ne J 127 (by unfold rg; omega) dX10_mean_120 (by decide) (fun (h_15 : ¬ 2 = 0) => ?_) (fun (h_15 : 2 = 0) => absurd h_15 (by omega))
          refine j_iload J dX10_mean_127 (lv_at hl 0 rfl) ?_
          refine j_iload J dX10_mean_129 (lv_at hl 1 rfl) ?_
          refine j_idiv J (show 0 ≤ (0 + (σ 1 (cl + 1))) + (σ 1 (cl - (σ 18 0))) ∧ ((0 + (σ 1 (cl + 1))) + (σ 1 (cl - (σ 18 0)))) < 2147483648 ∧ 0 < 2 ∧ 2 < 2147483648 from by omega) dX10_mean_131 ?_
          exact fin _ (σ) _ _ _ _ dX10_mean_132 rfl (⟨by unfold mnM; rw [show nbM σ cl = 2 from (by unfold nbM; (repeat' split) <;> omega), show smM σ cl = ((0 + (σ 1 (cl + 1))) + (σ 1 (cl - (σ 18 0)))) from (by unfold smM; (repeat' split) <;> omega)]; first | rfl | (rw [if_neg (by omega)]) | (rw [if_pos (by omega)]), rfl⟩) hw
        · refine j_iinc J (lv' := [(4, .int (I 3)), (5, .int (I ((0 + (σ 1 (cl + 1))) + (σ 1 (cl - (σ 18 0)))))), (3, .int (I (cl / (σ 18 0)))), (2, .int (I (cl % (σ 18 0)))), (0, .ref (ad 0)), (1, .int (I cl))]) (k := 1) hl dX10_mean_99 rfl (by decide) rfl (fun ls hl => ?_)
          refine j_iload J dX10_mean_102 (lv_at hl 1 rfl) ?_
          refine j_aload_n J dX10_mean_104 rfl (lv_at hl 4 rfl) ?_
          have hdn2 := hdn (by omega)
          refine mg_10_2 J hw lk_X10_16 dX10_mean_105 ?_
          refine j_iload_n J dX10_mean_108 rfl (lv_at hl 5 rfl) ?_
          refine j_aload_n J dX10_mean_109 rfl (lv_at hl 4 rfl) ?_
          refine mg_10_0 J hw lk_X10_7 dX10_mean_110 ?_
          refine j_iadd J dX10_mean_113 ?_
          refine ma_ld_1 J hw (show 0 ≤ cl + (σ 18 0) ∧ (cl + (σ 18 0)) < ((120 : Nat) : Int) from by omega) dX10_mean_114 ?_
          refine j_iadd J dX10_mean_115 ?_
          refine j_istore J (lv' := [(5, .int (I (((0 + (σ 1 (cl + 1))) + (σ 1 (cl - (σ 18 0)))) + (σ 1 (cl + (σ 18 0)))))), (4, .int (I 3)), (3, .int (I (cl / (σ 18 0)))), (2, .int (I (cl % (σ 18 0)))), (0, .ref (ad 0)), (1, .int (I cl))]) hl dX10_mean_116 (by decide) rfl (fun ls hl => ?_)
          refine j_iload J dX10_mean_118 (lv_at hl 1 rfl) ?_
          refine j_if_ne J 127 (by unfold rg; omega) dX10_mean_120 (by decide) (fun (h_16 : ¬ 3 = 0) => ?_) (fun (h_16 : 3 = 0) => absurd h_16 (by omega))
          refine j_iload J dX10_mean_127 (lv_at hl 0 rfl) ?_
          refine j_iload J dX10_mean_129 (lv_at hl 1 rfl) ?_
          refine j_idiv J (show 0 ≤ ((0 + (σ 1 (cl + 1))) + (σ 1 (cl - (σ 18 0)))) + (σ 1 (cl + (σ 18 0))) ∧ (((0 + (σ 1 (cl + 1))) + (σ 1 (cl - (σ 18 0)))) + (σ 1 (cl + (σ 18 0)))) < 2147483648 ∧ 0 < 3 ∧ 3 < 2147483648 from by omega) dX10_mean_131 ?_
          exact fin _ (σ) _ _ _ _ dX10_mean_132 rfl (⟨by unfold mnM; rw [show nbM σ cl = 3 from (by unfold nbM; (repeat' split) <;> omega), show smM σ cl = (((0 + (σ 1 (cl + 1))) + (σ 1 (cl - (σ 18 0)))) + (σ 1 (cl + (σ 18 0)))) from (by unfold smM; (repeat' split) <;> omega)]; first | rfl | (rw [if_neg (by omega)]) | (rw [if_pos (by omega)]), rfl⟩) hw
  · refine j_iinc J (lv' := [(4, .int (I 1)), (5, .int (I 0)), (3, .int (I (cl / (σ 18 0)))), (2, .int (I (cl % (σ 18 0)))), (0, .ref (ad 0)), (1, .int (I cl))]) (k := 1) hl dX10_mean_24 rfl (by decide) rfl (fun ls hl => ?_)
    refine j_iload J dX10_mean_27 (lv_at hl 1 rfl) ?_
    refine j_aload_n J dX10_mean_29 rfl (lv_at hl 4 rfl) ?_
    refine mg_10_2 J hw lk_X10_16 dX10_mean_30 ?_
    refine j_iload_n J dX10_mean_33 rfl (lv_at hl 5 rfl) ?_
    refine j_iconst J (1) dX10_mean_34 ?_
    refine j_isub J dX10_mean_35 ?_
    refine ma_ld_1 J hw (show 0 ≤ cl - 1 ∧ (cl - 1) < ((120 : Nat) : Int) from by omega) dX10_mean_36 ?_
    refine j_iadd J dX10_mean_37 ?_
    refine j_istore J (lv' := [(5, .int (I (0 + (σ 1 (cl - 1))))), (4, .int (I 1)), (3, .int (I (cl / (σ 18 0)))), (2, .int (I (cl % (σ 18 0)))), (0, .ref (ad 0)), (1, .int (I cl))]) hl dX10_mean_38 (by decide) rfl (fun ls hl => ?_)
    refine j_iload_n J dX10_mean_40 rfl (lv_at hl 3 rfl) ?_
    refine j_aload_n J dX10_mean_41 rfl (lv_at hl 4 rfl) ?_
    refine mg_10_0 J hw lk_X10_7 dX10_mean_42 ?_
    refine j_iconst J (1) dX10_mean_45 ?_
    refine j_isub J dX10_mean_46 ?_
    refine j_icmp_ge J 66 (show rg (cl % (σ 18 0)) by unfold rg; omega) (show rg ((σ 18 0) - 1) by unfold rg; omega) dX10_mean_47 (by decide) (fun (h_17 : ((σ 18 0) - 1) ≤ (cl % (σ 18 0))) => ?_) (fun (h_17 : (cl % (σ 18 0)) < ((σ 18 0) - 1)) => ?_)
    · refine j_iload_n J dX10_mean_66 rfl (lv_at hl 2 rfl) ?_
      refine j_if_le J 89 (show rg (cl / (σ 18 0)) by unfold rg; omega) dX10_mean_67 (by decide) (fun (h_18 : (cl / (σ 18 0)) ≤ 0) => ?_) (fun (h_18 : 0 < (cl / (σ 18 0))) => ?_)
      · refine j_iload_n J dX10_mean_89 rfl (lv_at hl 2 rfl) ?_
        refine j_aload_n J dX10_mean_90 rfl (lv_at hl 4 rfl) ?_
        refine mg_10_1 J hw lk_X10_13 dX10_mean_91 ?_
        refine j_iconst J (1) dX10_mean_94 ?_
        refine j_isub J dX10_mean_95 ?_
        refine j_icmp_ge J 118 (show rg (cl / (σ 18 0)) by unfold rg; omega) (show rg ((σ 18 1) - 1) by unfold rg; omega) dX10_mean_96 (by decide) (fun (h_19 : ((σ 18 1) - 1) ≤ (cl / (σ 18 0))) => ?_) (fun (h_19 : (cl / (σ 18 0)) < ((σ 18 1) - 1)) => ?_)
        · refine j_iload J dX10_mean_118 (lv_at hl 1 rfl) ?_
          refine j_if_ne J 127 (by unfold rg; omega) dX10_mean_120 (by decide) (fun (h_20 : ¬ 1 = 0) => ?_) (fun (h_20 : 1 = 0) => absurd h_20 (by omega))
          refine j_iload J dX10_mean_127 (lv_at hl 0 rfl) ?_
          refine j_iload J dX10_mean_129 (lv_at hl 1 rfl) ?_
          refine j_idiv J (show 0 ≤ 0 + (σ 1 (cl - 1)) ∧ (0 + (σ 1 (cl - 1))) < 2147483648 ∧ 0 < 1 ∧ 1 < 2147483648 from by omega) dX10_mean_131 ?_
          exact fin _ (σ) _ _ _ _ dX10_mean_132 rfl (⟨by unfold mnM; rw [show nbM σ cl = 1 from (by unfold nbM; (repeat' split) <;> omega), show smM σ cl = (0 + (σ 1 (cl - 1))) from (by unfold smM; (repeat' split) <;> omega)]; first | rfl | (rw [if_neg (by omega)]) | (rw [if_pos (by omega)]), rfl⟩) hw
        · refine j_iinc J (lv' := [(4, .int (I 2)), (5, .int (I (0 + (σ 1 (cl - 1))))), (3, .int (I (cl / (σ 18 0)))), (2, .int (I (cl % (σ 18 0)))), (0, .ref (ad 0)), (1, .int (I cl))]) (k := 1) hl dX10_mean_99 rfl (by decide) rfl (fun ls hl => ?_)
          refine j_iload J dX10_mean_102 (lv_at hl 1 rfl) ?_
          refine j_aload_n J dX10_mean_104 rfl (lv_at hl 4 rfl) ?_
          have hdn2 := hdn (by omega)
          refine mg_10_2 J hw lk_X10_16 dX10_mean_105 ?_
          refine j_iload_n J dX10_mean_108 rfl (lv_at hl 5 rfl) ?_
          refine j_aload_n J dX10_mean_109 rfl (lv_at hl 4 rfl) ?_
          refine mg_10_0 J hw lk_X10_7 dX10_mean_110 ?_
          refine j_iadd J dX10_mean_113 ?_
          refine ma_ld_1 J hw (show 0 ≤ cl + (σ 18 0) ∧ (cl + (σ 18 0)) < ((120 : Nat) : Int) from by omega) dX10_mean_114 ?_
          refine j_iadd J dX10_mean_115 ?_
          refine j_istore J (lv' := [(5, .int (I ((0 + (σ 1 (cl - 1))) + (σ 1 (cl + (σ 18 0)))))), (4, .int (I 2)), (3, .int (I (cl / (σ 18 0)))), (2, .int (I (cl % (σ 18 0)))), (0, .ref (ad 0)), (1, .int (I cl))]) hl dX10_mean_116 (by decide) rfl (fun ls hl => ?_)
          refine j_iload J dX10_mean_118 (lv_at hl 1 rfl) ?_
          refine j_if_ne J 127 (by unfold rg; omega) dX10_mean_120 (by decide) (fun (h_21 : ¬ 2 = 0) => ?_) (fun (h_21 : 2 = 0) => absurd h_21 (by omega))
          refine j_iload J dX10_mean_127 (lv_at hl 0 rfl) ?_
          refine j_iload J dX10_mean_129 (lv_at hl 1 rfl) ?_
          refine j_idiv J (show 0 ≤ (0 + (σ 1 (cl - 1))) + (σ 1 (cl + (σ 18 0))) ∧ ((0 + (σ 1 (cl - 1))) + (σ 1 (cl + (σ 18 0)))) < 2147483648 ∧ 0 < 2 ∧ 2 < 2147483648 from by omega) dX10_mean_131 ?_
          exact fin _ (σ) _ _ _ _ dX10_mean_132 rfl (⟨by unfold mnM; rw [show nbM σ cl = 2 from (by unfold nbM; (repeat' split) <;> omega), show smM σ cl = ((0 + (σ 1 (cl - 1))) + (σ 1 (cl + (σ 18 0)))) from (by unfold smM; (repeat' split) <;> omega)]; first | rfl | (rw [if_neg (by omega)]) | (rw [if_pos (by omega)]), rfl⟩) hw
      · refine j_iinc J (lv' := [(4, .int (I 2)), (5, .int (I (0 + (σ 1 (cl - 1))))), (3, .int (I (cl / (σ 18 0)))), (2, .int (I (cl % (σ 18 0)))), (0, .ref (ad 0)), (1, .int (I cl))]) (k := 1) hl dX10_mean_70 rfl (by decide) rfl (fun ls hl => ?_)
        refine j_iload J dX10_mean_73 (lv_at hl 1 rfl) ?_
        refine j_aload_n J dX10_mean_75 rfl (lv_at hl 4 rfl) ?_
        have hup2 := hup (by omega)
        refine mg_10_2 J hw lk_X10_16 dX10_mean_76 ?_
        refine j_iload_n J dX10_mean_79 rfl (lv_at hl 5 rfl) ?_
        refine j_aload_n J dX10_mean_80 rfl (lv_at hl 4 rfl) ?_
        refine mg_10_0 J hw lk_X10_7 dX10_mean_81 ?_
        refine j_isub J dX10_mean_84 ?_
        refine ma_ld_1 J hw (show 0 ≤ cl - (σ 18 0) ∧ (cl - (σ 18 0)) < ((120 : Nat) : Int) from by omega) dX10_mean_85 ?_
        refine j_iadd J dX10_mean_86 ?_
        refine j_istore J (lv' := [(5, .int (I ((0 + (σ 1 (cl - 1))) + (σ 1 (cl - (σ 18 0)))))), (4, .int (I 2)), (3, .int (I (cl / (σ 18 0)))), (2, .int (I (cl % (σ 18 0)))), (0, .ref (ad 0)), (1, .int (I cl))]) hl dX10_mean_87 (by decide) rfl (fun ls hl => ?_)
        refine j_iload_n J dX10_mean_89 rfl (lv_at hl 2 rfl) ?_
        refine j_aload_n J dX10_mean_90 rfl (lv_at hl 4 rfl) ?_
        refine mg_10_1 J hw lk_X10_13 dX10_mean_91 ?_
        refine j_iconst J (1) dX10_mean_94 ?_
        refine j_isub J dX10_mean_95 ?_
        refine j_icmp_ge J 118 (show rg (cl / (σ 18 0)) by unfold rg; omega) (show rg ((σ 18 1) - 1) by unfold rg; omega) dX10_mean_96 (by decide) (fun (h_22 : ((σ 18 1) - 1) ≤ (cl / (σ 18 0))) => ?_) (fun (h_22 : (cl / (σ 18 0)) < ((σ 18 1) - 1)) => ?_)
        · refine j_iload J dX10_mean_118 (lv_at hl 1 rfl) ?_
          refine j_if_ne J 127 (by unfold rg; omega) dX10_mean_120 (by decide) (fun (h_23 : ¬ 2 = 0) => ?_) (fun (h_23 : 2 = 0) => absurd h_23 (by omega))
          refine j_iload J dX10_mean_127 (lv_at hl 0 rfl) ?_
          refine j_iload J dX10_mean_129 (lv_at hl 1 rfl) ?_
          refine j_idiv J (show 0 ≤ (0 + (σ 1 (cl - 1))) + (σ 1 (cl - (σ 18 0))) ∧ ((0 + (σ 1 (cl - 1))) + (σ 1 (cl - (σ 18 0)))) < 2147483648 ∧ 0 < 2 ∧ 2 < 2147483648 from by omega) dX10_mean_131 ?_
          exact fin _ (σ) _ _ _ _ dX10_mean_132 rfl (⟨by unfold mnM; rw [show nbM σ cl = 2 from (by unfold nbM; (repeat' split) <;> omega), show smM σ cl = ((0 + (σ 1 (cl - 1))) + (σ 1 (cl - (σ 18 0)))) from (by unfold smM; (repeat' split) <;> omega)]; first | rfl | (rw [if_neg (by omega)]) | (rw [if_pos (by omega)]), rfl⟩) hw
        · refine j_iinc J (lv' := [(4, .int (I 3)), (5, .int (I ((0 + (σ 1 (cl - 1))) + (σ 1 (cl - (σ 18 0)))))), (3, .int (I (cl / (σ 18 0)))), (2, .int (I (cl % (σ 18 0)))), (0, .ref (ad 0)), (1, .int (I cl))]) (k := 1) hl dX10_mean_99 rfl (by decide) rfl (fun ls hl => ?_)
          refine j_iload J dX10_mean_102 (lv_at hl 1 rfl) ?_
          refine j_aload_n J dX10_mean_104 rfl (lv_at hl 4 rfl) ?_
          have hdn2 := hdn (by omega)
          refine mg_10_2 J hw lk_X10_16 dX10_mean_105 ?_
          refine j_iload_n J dX10_mean_108 rfl (lv_at hl 5 rfl) ?_
          refine j_aload_n J dX10_mean_109 rfl (lv_at hl 4 rfl) ?_
          refine mg_10_0 J hw lk_X10_7 dX10_mean_110 ?_
          refine j_iadd J dX10_mean_113 ?_
          refine ma_ld_1 J hw (show 0 ≤ cl + (σ 18 0) ∧ (cl + (σ 18 0)) < ((120 : Nat) : Int) from by omega) dX10_mean_114 ?_
          refine j_iadd J dX10_mean_115 ?_
          refine j_istore J (lv' := [(5, .int (I (((0 + (σ 1 (cl - 1))) + (σ 1 (cl - (σ 18 0)))) + (σ 1 (cl + (σ 18 0)))))), (4, .int (I 3)), (3, .int (I (cl / (σ 18 0)))), (2, .int (I (cl % (σ 18 0)))), (0, .ref (ad 0)), (1, .int (I cl))]) hl dX10_mean_116 (by decide) rfl (fun ls hl => ?_)
          refine j_iload J dX10_mean_118 (lv_at hl 1 rfl) ?_
          refine j_if_ne J 127 (by unfold rg; omega) dX10_mean_120 (by decide) (fun (h_24 : ¬ 3 = 0) => ?_) (fun (h_24 : 3 = 0) => absurd h_24 (by omega))
          refine j_iload J dX10_mean_127 (lv_at hl 0 rfl) ?_
          refine j_iload J dX10_mean_129 (lv_at hl 1 rfl) ?_
          refine j_idiv J (show 0 ≤ ((0 + (σ 1 (cl - 1))) + (σ 1 (cl - (σ 18 0)))) + (σ 1 (cl + (σ 18 0))) ∧ (((0 + (σ 1 (cl - 1))) + (σ 1 (cl - (σ 18 0)))) + (σ 1 (cl + (σ 18 0)))) < 2147483648 ∧ 0 < 3 ∧ 3 < 2147483648 from by omega) dX10_mean_131 ?_
          exact fin _ (σ) _ _ _ _ dX10_mean_132 rfl (⟨by unfold mnM; rw [show nbM σ cl = 3 from (by unfold nbM; (repeat' split) <;> omega), show smM σ cl = (((0 + (σ 1 (cl - 1))) + (σ 1 (cl - (σ 18 0)))) + (σ 1 (cl + (σ 18 0)))) from (by unfold smM; (repeat' split) <;> omega)]; first | rfl | (rw [if_neg (by omega)]) | (rw [if_pos (by omega)]), rfl⟩) hw
    · refine j_iinc J (lv' := [(4, .int (I 2)), (5, .int (I (0 + (σ 1 (cl - 1))))), (3, .int (I (cl / (σ 18 0)))), (2, .int (I (cl % (σ 18 0)))), (0, .ref (ad 0)), (1, .int (I cl))]) (k := 1) hl dX10_mean_50 rfl (by decide) rfl (fun ls hl => ?_)
      refine j_iload J dX10_mean_53 (lv_at hl 1 rfl) ?_
      refine j_aload_n J dX10_mean_55 rfl (lv_at hl 4 rfl) ?_
      refine mg_10_2 J hw lk_X10_16 dX10_mean_56 ?_
      refine j_iload_n J dX10_mean_59 rfl (lv_at hl 5 rfl) ?_
      refine j_iconst J (1) dX10_mean_60 ?_
      refine j_iadd J dX10_mean_61 ?_
      refine ma_ld_1 J hw (show 0 ≤ cl + 1 ∧ (cl + 1) < ((120 : Nat) : Int) from by omega) dX10_mean_62 ?_
      refine j_iadd J dX10_mean_63 ?_
      refine j_istore J (lv' := [(5, .int (I ((0 + (σ 1 (cl - 1))) + (σ 1 (cl + 1))))), (4, .int (I 2)), (3, .int (I (cl / (σ 18 0)))), (2, .int (I (cl % (σ 18 0)))), (0, .ref (ad 0)), (1, .int (I cl))]) hl dX10_mean_64 (by decide) rfl (fun ls hl => ?_)
      refine j_iload_n J dX10_mean_66 rfl (lv_at hl 2 rfl) ?_
      refine j_if_le J 89 (show rg (cl / (σ 18 0)) by unfold rg; omega) dX10_mean_67 (by decide) (fun (h_25 : (cl / (σ 18 0)) ≤ 0) => ?_) (fun (h_25 : 0 < (cl / (σ 18 0))) => ?_)
      · refine j_iload_n J dX10_mean_89 rfl (lv_at hl 2 rfl) ?_
        refine j_aload_n J dX10_mean_90 rfl (lv_at hl 4 rfl) ?_
        refine mg_10_1 J hw lk_X10_13 dX10_mean_91 ?_
        refine j_iconst J (1) dX10_mean_94 ?_
        refine j_isub J dX10_mean_95 ?_
        refine j_icmp_ge J 118 (show rg (cl / (σ 18 0)) by unfold rg; omega) (show rg ((σ 18 1) - 1) by unfold rg; omega) dX10_mean_96 (by decide) (fun (h_26 : ((σ 18 1) - 1) ≤ (cl / (σ 18 0))) => ?_) (fun (h_26 : (cl / (σ 18 0)) < ((σ 18 1) - 1)) => ?_)
        · refine j_iload J dX10_mean_118 (lv_at hl 1 rfl) ?_
          refine j_if_ne J 127 (by unfold rg; omega) dX10_mean_120 (by decide) (fun (h_27 : ¬ 2 = 0) => ?_) (fun (h_27 : 2 = 0) => absurd h_27 (by omega))
          refine j_iload J dX10_mean_127 (lv_at hl 0 rfl) ?_
          refine j_iload J dX10_mean_129 (lv_at hl 1 rfl) ?_
          refine j_idiv J (show 0 ≤ (0 + (σ 1 (cl - 1))) + (σ 1 (cl + 1)) ∧ ((0 + (σ 1 (cl - 1))) + (σ 1 (cl + 1))) < 2147483648 ∧ 0 < 2 ∧ 2 < 2147483648 from by omega) dX10_mean_131 ?_
          exact fin _ (σ) _ _ _ _ dX10_mean_132 rfl (⟨by unfold mnM; rw [show nbM σ cl = 2 from (by unfold nbM; (repeat' split) <;> omega), show smM σ cl = ((0 + (σ 1 (cl - 1))) + (σ 1 (cl + 1))) from (by unfold smM; (repeat' split) <;> omega)]; first | rfl | (rw [if_neg (by omega)]) | (rw [if_pos (by omega)]), rfl⟩) hw
        · refine j_iinc J (lv' := [(4, .int (I 3)), (5, .int (I ((0 + (σ 1 (cl - 1))) + (σ 1 (cl + 1))))), (3, .int (I (cl / (σ 18 0)))), (2, .int (I (cl % (σ 18 0)))), (0, .ref (ad 0)), (1, .int (I cl))]) (k := 1) hl dX10_mean_99 rfl (by decide) rfl (fun ls hl => ?_)
          refine j_iload J dX10_mean_102 (lv_at hl 1 rfl) ?_
          refine j_aload_n J dX10_mean_104 rfl (lv_at hl 4 rfl) ?_
          have hdn2 := hdn (by omega)
          refine mg_10_2 J hw lk_X10_16 dX10_mean_105 ?_
          refine j_iload_n J dX10_mean_108 rfl (lv_at hl 5 rfl) ?_
          refine j_aload_n J dX10_mean_109 rfl (lv_at hl 4 rfl) ?_
          refine mg_10_0 J hw lk_X10_7 dX10_mean_110 ?_
          refine j_iadd J dX10_mean_113 ?_
          refine ma_ld_1 J hw (show 0 ≤ cl + (σ 18 0) ∧ (cl + (σ 18 0)) < ((120 : Nat) : Int) from by omega) dX10_mean_114 ?_
          refine j_iadd J dX10_mean_115 ?_
          refine j_istore J (lv' := [(5, .int (I (((0 + (σ 1 (cl - 1))) + (σ 1 (cl + 1))) + (σ 1 (cl + (σ 18 0)))))), (4, .int (I 3)), (3, .int (I (cl / (σ 18 0)))), (2, .int (I (cl % (σ 18 0)))), (0, .ref (ad 0)), (1, .int (I cl))]) hl dX10_mean_116 (by decide) rfl (fun ls hl => ?_)
          refine j_iload J dX10_mean_118 (lv_at hl 1 rfl) ?_
          refine j_if_ne J 127 (by unfold rg; omega) dX10_mean_120 (by decide) (fun (h_28 : ¬ 3 = 0) => ?_) (fun (h_28 : 3 = 0) => absurd h_28 (by omega))
          refine j_iload J dX10_mean_127 (lv_at hl 0 rfl) ?_
          refine j_iload J dX10_mean_129 (lv_at hl 1 rfl) ?_
          refine j_idiv J (show 0 ≤ ((0 + (σ 1 (cl - 1))) + (σ 1 (cl + 1))) + (σ 1 (cl + (σ 18 0))) ∧ (((0 + (σ 1 (cl - 1))) + (σ 1 (cl + 1))) + (σ 1 (cl + (σ 18 0)))) < 2147483648 ∧ 0 < 3 ∧ 3 < 2147483648 from by omega) dX10_mean_131 ?_
          exact fin _ (σ) _ _ _ _ dX10_mean_132 rfl (⟨by unfold mnM; rw [show nbM σ cl = 3 from (by unfold nbM; (repeat' split) <;> omega), show smM σ cl = (((0 + (σ 1 (cl - 1))) + (σ 1 (cl + 1))) + (σ 1 (cl + (σ 18 0)))) from (by unfold smM; (repeat' split) <;> omega)]; first | rfl | (rw [if_neg (by omega)]) | (rw [if_pos (by omega)]), rfl⟩) hw
      · refine j_iinc J (lv' := [(4, .int (I 3)), (5, .int (I ((0 + (σ 1 (cl - 1))) + (σ 1 (cl + 1))))), (3, .int (I (cl / (σ 18 0)))), (2, .int (I (cl % (σ 18 0)))), (0, .ref (ad 0)), (1, .int (I cl))]) (k := 1) hl dX10_mean_70 rfl (by decide) rfl (fun ls hl => ?_)
        refine j_iload J dX10_mean_73 (lv_at hl 1 rfl) ?_
        refine j_aload_n J dX10_mean_75 rfl (lv_at hl 4 rfl) ?_
        have hup2 := hup (by omega)
        refine mg_10_2 J hw lk_X10_16 dX10_mean_76 ?_
        refine j_iload_n J dX10_mean_79 rfl (lv_at hl 5 rfl) ?_
        refine j_aload_n J dX10_mean_80 rfl (lv_at hl 4 rfl) ?_
        refine mg_10_0 J hw lk_X10_7 dX10_mean_81 ?_
        refine j_isub J dX10_mean_84 ?_
        refine ma_ld_1 J hw (show 0 ≤ cl - (σ 18 0) ∧ (cl - (σ 18 0)) < ((120 : Nat) : Int) from by omega) dX10_mean_85 ?_
        refine j_iadd J dX10_mean_86 ?_
        refine j_istore J (lv' := [(5, .int (I (((0 + (σ 1 (cl - 1))) + (σ 1 (cl + 1))) + (σ 1 (cl - (σ 18 0)))))), (4, .int (I 3)), (3, .int (I (cl / (σ 18 0)))), (2, .int (I (cl % (σ 18 0)))), (0, .ref (ad 0)), (1, .int (I cl))]) hl dX10_mean_87 (by decide) rfl (fun ls hl => ?_)
        refine j_iload_n J dX10_mean_89 rfl (lv_at hl 2 rfl) ?_
        refine j_aload_n J dX10_mean_90 rfl (lv_at hl 4 rfl) ?_
        refine mg_10_1 J hw lk_X10_13 dX10_mean_91 ?_
        refine j_iconst J (1) dX10_mean_94 ?_
        refine j_isub J dX10_mean_95 ?_
        refine j_icmp_ge J 118 (show rg (cl / (σ 18 0)) by unfold rg; omega) (show rg ((σ 18 1) - 1) by unfold rg; omega) dX10_mean_96 (by decide) (fun (h_29 : ((σ 18 1) - 1) ≤ (cl / (σ 18 0))) => ?_) (fun (h_29 : (cl / (σ 18 0)) < ((σ 18 1) - 1)) => ?_)
        · refine j_iload J dX10_mean_118 (lv_at hl 1 rfl) ?_
          refine j_if_ne J 127 (by unfold rg; omega) dX10_mean_120 (by decide) (fun (h_30 : ¬ 3 = 0) => ?_) (fun (h_30 : 3 = 0) => absurd h_30 (by omega))
          refine j_iload J dX10_mean_127 (lv_at hl 0 rfl) ?_
          refine j_iload J dX10_mean_129 (lv_at hl 1 rfl) ?_
          refine j_idiv J (show 0 ≤ ((0 + (σ 1 (cl - 1))) + (σ 1 (cl + 1))) + (σ 1 (cl - (σ 18 0))) ∧ (((0 + (σ 1 (cl - 1))) + (σ 1 (cl + 1))) + (σ 1 (cl - (σ 18 0)))) < 2147483648 ∧ 0 < 3 ∧ 3 < 2147483648 from by omega) dX10_mean_131 ?_
          exact fin _ (σ) _ _ _ _ dX10_mean_132 rfl (⟨by unfold mnM; rw [show nbM σ cl = 3 from (by unfold nbM; (repeat' split) <;> omega), show smM σ cl = (((0 + (σ 1 (cl - 1))) + (σ 1 (cl + 1))) + (σ 1 (cl - (σ 18 0)))) from (by unfold smM; (repeat' split) <;> omega)]; first | rfl | (rw [if_neg (by omega)]) | (rw [if_pos (by omega)]), rfl⟩) hw
        · refine j_iinc J (lv' := [(4, .int (I 4)), (5, .int (I (((0 + (σ 1 (cl - 1))) + (σ 1 (cl + 1))) + (σ 1 (cl - (σ 18 0)))))), (3, .int (I (cl / (σ 18 0)))), (2, .int (I (cl % (σ 18 0)))), (0, .ref (ad 0)), (1, .int (I cl))]) (k := 1) hl dX10_mean_99 rfl (by decide) rfl (fun ls hl => ?_)
          refine j_iload J dX10_mean_102 (lv_at hl 1 rfl) ?_
          refine j_aload_n J dX10_mean_104 rfl (lv_at hl 4 rfl) ?_
          have hdn2 := hdn (by omega)
          refine mg_10_2 J hw lk_X10_16 dX10_mean_105 ?_
          refine j_iload_n J dX10_mean_108 rfl (lv_at hl 5 rfl) ?_
          refine j_aload_n J dX10_mean_109 rfl (lv_at hl 4 rfl) ?_
          refine mg_10_0 J hw lk_X10_7 dX10_mean_110 ?_
          refine j_iadd J dX10_mean_113 ?_
          refine ma_ld_1 J hw (show 0 ≤ cl + (σ 18 0) ∧ (cl + (σ 18 0)) < ((120 : Nat) : Int) from by omega) dX10_mean_114 ?_
          refine j_iadd J dX10_mean_115 ?_
          refine j_istore J (lv' := [(5, .int (I ((((0 + (σ 1 (cl - 1))) + (σ 1 (cl + 1))) + (σ 1 (cl - (σ 18 0)))) + (σ 1 (cl + (σ 18 0)))))), (4, .int (I 4)), (3, .int (I (cl / (σ 18 0)))), (2, .int (I (cl % (σ 18 0)))), (0, .ref (ad 0)), (1, .int (I cl))]) hl dX10_mean_116 (by decide) rfl (fun ls hl => ?_)
          refine j_iload J dX10_mean_118 (lv_at hl 1 rfl) ?_
          refine j_if_ne J 127 (by unfold rg; omega) dX10_mean_120 (by decide) (fun (h_31 : ¬ 4 = 0) => ?_) (fun (h_31 : 4 = 0) => absurd h_31 (by omega))
          refine j_iload J dX10_mean_127 (lv_at hl 0 rfl) ?_
          refine j_iload J dX10_mean_129 (lv_at hl 1 rfl) ?_
          refine j_idiv J (show 0 ≤ (((0 + (σ 1 (cl - 1))) + (σ 1 (cl + 1))) + (σ 1 (cl - (σ 18 0)))) + (σ 1 (cl + (σ 18 0))) ∧ ((((0 + (σ 1 (cl - 1))) + (σ 1 (cl + 1))) + (σ 1 (cl - (σ 18 0)))) + (σ 1 (cl + (σ 18 0)))) < 2147483648 ∧ 0 < 4 ∧ 4 < 2147483648 from by omega) dX10_mean_131 ?_
          exact fin _ (σ) _ _ _ _ dX10_mean_132 rfl (⟨by unfold mnM; rw [show nbM σ cl = 4 from (by unfold nbM; (repeat' split) <;> omega), show smM σ cl = ((((0 + (σ 1 (cl - 1))) + (σ 1 (cl + 1))) + (σ 1 (cl - (σ 18 0)))) + (σ 1 (cl + (σ 18 0)))) from (by unfold smM; (repeat' split) <;> omega)]; first | rfl | (rw [if_neg (by omega)]) | (rw [if_pos (by omega)]), rfl⟩) hw
theorem k_X10_mean {p : Program} {l : Launch} {e : Env} {R : Room} {s : State} {m : MethodId} {args : Array Value} {below : List Frame} {meth : Method} {c : Code} {H : Heap} {locs : List Loc} {Q : State → Prop} {cc : ByteArray} {pc : Nat} {ls : Array Slot} {rest : List Value} {nL : Nat} {own : String} {D : va_G} {σ : St} {cI cZ : ClassId} {ad : Nat → Nat} {index : Nat} {cl : Int} (hD : ∀ τ, va_D (AD ad 45) (wsM cI cZ ad τ)) (hB : Bd σ) (hc : 0 ≤ cl ∧ cl < σ 18 0 * σ 18 1) (J : Jx p m c cc nL s args own D [(cI, .int), (cZ, .boolean)] (AD ad 45) (wsM cI cZ ad)) (hw : jW D (AD ad 45) s.heap (wsM cI cZ ad σ) H locs) (hsz : ls.size = nL) (hlk : Cond.methodLink own index yX10_mean ∈ TBw) (hR : 1 ≤ R.frames ∧ 25 ≤ R.locals) (hroom : (rest.map fun v => v.category).sum ≤ 8) (hdg : decode cc pc = .ok (.invokevirtual index, 3)) (kk : ∀ (H1 : Heap) (locs1 : List Loc), jW D (AD ad 45) s.heap (wsM cI cZ ad σ) H1 locs1 → W p l e R s m args below meth c H1 locs1 0 0 Q (F0 m (pc + 3) ls (.int (I (mnM σ cl)) :: rest))) : W p l e R s m args below meth c H locs 0 0 Q (F0 m pc ls (.int (I cl) :: .ref (ad 0) :: rest)) := 
  j_callVi J hw (c_X10_mean  hD hB hc) hlk in_X10_mean se_X10_mean ini_X10 co_X10_mean (n := 1) (by decide +kernel) ⟨rfl, rfl, hR.1, hR.2⟩ (j := 0) (ci := 10) rfl rfl rfl rfl hroom hsz ⟨Nat.zero_le _, Nat.zero_le _⟩ rfl hdg (fun r τ H1 locs1 hp hw1 => by obtain ⟨rfl, rfl⟩ := hp; exact kk H1 locs1 hw1)
def rm_X10_silts : Room := { frames := 1, cells := 0, slots := 0, locals := 25 }
set_option maxHeartbeats 4000000 in
set_option maxRecDepth 100000 in
theorem c_X10_silts {l : Launch} {D : va_G} {cI cZ : ClassId} {ad : Nat → Nat} {σ : St}  (hD : ∀ τ, va_D (AD ad 45) (wsM cI cZ ad τ)) (hB : Bd σ) : JMv l yX10_silts cX10_silts 3 rm_X10_silts D [(cI, .int), (cZ, .boolean)] (AD ad 45) (wsM cI cZ ad) [.ref (ad 0)] σ (fun τ => Eqp τ (silS σ (σ 18 0 * σ 18 1))) := by
  refine JMv.of RX10 (by decide +kernel) rfl (Nat.le_of_ble_eq_true rfl) hD ?_
  intro p e s m args below meth c Q J fin H ls hw hl
  generalize ([] : List Loc) = locs at hw ⊢
  have hl : lv_has ls 3 [(0, .ref (ad 0))] := hl
  have hd : Dim _ := hB.dim
  have hd1 := hd.1; have hd2 := hd.2.1; have hd3 := hd.2.2.1; have hd4 := hd.2.2.2; have hm := hd.mul
  refine j_iconst J (0) dX10_silts_0 ?_
  refine j_istore_n J (lv' := [(1, .int (I 0)), (0, .ref (ad 0))]) hl dX10_silts_1 rfl (by decide) rfl (fun ls hl => ?_)
  have L2 : ∀ n : Nat, ∀ (τ : St) (i : Int), (0 ≤ i ∧ i ≤ σ 18 0 * σ 18 1) → (SlM σ i τ) → ((σ 18 0 * σ 18 1 - i).toNat) < n → ∀ (H : Heap) (locs : List Loc) (ls : Array Slot), jW D (AD ad 45) s.heap (wsM cI cZ ad τ) H locs → lv_has ls 3 [(1, .int (I i)), (0, .ref (ad 0))] → W p l e rm_X10_silts s m args below meth c H locs 0 0 Q (F0 m 2 ls []) := by
    intro n
    induction n with
    | zero =>
      intro τ i hi0 hS hm H locs ls hw hl
      exact absurd hm (Nat.not_lt_zero _)
    | succ n ih =>
      intro τ i hi0 hS hm H locs ls hw hl
      have ih2 := ih
      have d0 : τ 18 0 = σ 18 0 := hS.1 18 0 (pub_s (by decide))
      have d1 : τ 18 1 = σ 18 1 := hS.1 18 1 (pub_s (by decide))
      have d01 : τ 18 0 * τ 18 1 = σ 18 0 * σ 18 1 := by rw [d0, d1]
      have hBt := hB.eqp hS.1
      refine j_iload_n J dX10_silts_2 rfl (lv_at hl 0 rfl) ?_
      refine j_aload_n J dX10_silts_3 rfl (lv_at hl 1 rfl) ?_
      refine mg_10_0 J hw lk_X10_7 dX10_silts_4 ?_
      refine j_aload_n J dX10_silts_7 rfl (lv_at hl 1 rfl) ?_
      refine mg_10_1 J hw lk_X10_13 dX10_silts_8 ?_
      refine j_imul J dX10_silts_11 ?_
      refine j_icmp_ge J 61 (show rg i by unfold rg; omega) (show rg ((τ 18 0) * (τ 18 1)) by unfold rg; omega) dX10_silts_12 (by decide) (fun (h_1 : ((τ 18 0) * (τ 18 1)) ≤ i) => ?_) (fun (h_1 : i < ((τ 18 0) * (τ 18 1))) => ?_)
      · refine j_iconst J (0) dX10_silts_61 ?_
        refine j_istore_n J (lv' := [(1, .int (I 0)), (0, .ref (ad 0))]) hl dX10_silts_62 rfl (by decide) rfl (fun ls hl => ?_)
        have L63 : ∀ n : Nat, ∀ (τ : St) (j : Int), (0 ≤ j ∧ j ≤ σ 18 0 * σ 18 1) → (S2M σ j τ) → ((σ 18 0 * σ 18 1 - j).toNat) < n → ∀ (H : Heap) (locs : List Loc) (ls : Array Slot), jW D (AD ad 45) s.heap (wsM cI cZ ad τ) H locs → lv_has ls 3 [(1, .int (I j)), (0, .ref (ad 0))] → W p l e rm_X10_silts s m args below meth c H locs 0 0 Q (F0 m 63 ls []) := by
          intro n
          induction n with
          | zero =>
            intro τ j hj0 h2 hm H locs ls hw hl
            exact absurd hm (Nat.not_lt_zero _)
          | succ n ih =>
            intro τ j hj0 h2 hm H locs ls hw hl
            have ih63 := ih
            have d0 : τ 18 0 = σ 18 0 := (s2M_at h2).2.1
            have d1 : τ 18 1 = σ 18 1 := (s2M_at h2).2.2
            have d01 : τ 18 0 * τ 18 1 = σ 18 0 * σ 18 1 := by rw [d0, d1]
            refine j_iload_n J dX10_silts_63 rfl (lv_at hl 0 rfl) ?_
            refine j_aload_n J dX10_silts_64 rfl (lv_at hl 1 rfl) ?_
            refine mg_10_0 J hw lk_X10_7 dX10_silts_65 ?_
            refine j_aload_n J dX10_silts_68 rfl (lv_at hl 1 rfl) ?_
            refine mg_10_1 J hw lk_X10_13 dX10_silts_69 ?_
            refine j_imul J dX10_silts_72 ?_
            refine j_icmp_ge J 112 (show rg j by unfold rg; omega) (show rg ((τ 18 0) * (τ 18 1)) by unfold rg; omega) dX10_silts_73 (by decide) (fun (h_2 : ((τ 18 0) * (τ 18 1)) ≤ j) => ?_) (fun (h_2 : j < ((τ 18 0) * (τ 18 1))) => ?_)
            · exact fin (τ) _ _ _ _ dX10_silts_112 (by rw [show σ 18 0 * σ 18 1 = j by omega]; exact h2.1) hw
            · refine j_aload_n J dX10_silts_76 rfl (lv_at hl 1 rfl) ?_
              refine mg_10_2 J hw lk_X10_16 dX10_silts_77 ?_
              refine j_iload_n J dX10_silts_80 rfl (lv_at hl 0 rfl) ?_
              refine j_dup2 J dX10_silts_81 rfl rfl ?_
              refine ma_ld_1 J hw (show 0 ≤ j ∧ j < ((120 : Nat) : Int) from by omega) dX10_silts_82 ?_
              refine j_aload_n J dX10_silts_83 rfl (lv_at hl 1 rfl) ?_
              refine mg_10_6 J hw lk_X10_29 dX10_silts_84 ?_
              refine j_iload_n J dX10_silts_87 rfl (lv_at hl 0 rfl) ?_
              refine ma_ld_6 J hw (show 0 ≤ j ∧ j < ((120 : Nat) : Int) from by omega) dX10_silts_88 ?_
              refine j_isub J dX10_silts_89 ?_
              refine ma_st_1 J hw (show 0 ≤ j ∧ j < ((120 : Nat) : Int) from by omega) dX10_silts_90 (fun H locs hw => ?_)
              refine j_aload_n J dX10_silts_91 rfl (lv_at hl 1 rfl) ?_
              refine j_dup J dX10_silts_92 rfl ?_
              refine mg_10_25 J hw lk_X10_94 dX10_silts_93 ?_
              refine j_aload_n J dX10_silts_96 rfl (lv_at hl 1 rfl) ?_
              refine mg_10_6 J hw lk_X10_29 dX10_silts_97 ?_
              refine j_iload_n J dX10_silts_100 rfl (lv_at hl 0 rfl) ?_
              refine ma_ld_6 J hw (show 0 ≤ j ∧ j < ((120 : Nat) : Int) from by omega) dX10_silts_101 ?_
              refine j_iadd J dX10_silts_102 ?_
              refine ms_10_25 J hw lk_X10_94 dX10_silts_103 (fun H locs hw => ?_)
              refine j_iinc J (lv' := [(1, .int (I (j + 1))), (0, .ref (ad 0))]) (k := 0) hl dX10_silts_106 rfl (by decide) rfl (fun ls hl => ?_)
              refine j_goto J 63 dX10_silts_109 (by decide) ?_
              exact ih63 (st (st τ 1 j ((τ 1 j) - (τ 6 j))) 18 2 ((τ 18 2) + (τ 6 j))) (j + 1) (by omega) (s2M_step hB h2 hj0.1 (by omega)) (by omega) _ _ _ hw (lv_sub hl [0, 1] rfl)
        exact L63 _ τ 0 (by omega) (s2M_0 (by rw [show σ 18 0 * σ 18 1 = i by omega]; exact hS)) (Nat.lt_succ_self _) _ _ _ hw (lv_sub hl [0, 1] rfl)
      · have bm := mnM_rng (c := i) hBt; have bd := hBt.depth i; have bg := hBt.design i
        refine j_aload_n J dX10_silts_15 rfl (lv_at hl 1 rfl) ?_
        refine j_iload_n J dX10_silts_16 rfl (lv_at hl 0 rfl) ?_
        refine k_X10_mean (cl := i) (σ := τ) hD (show Bd τ from hBt) (show 0 ≤ i ∧ i < τ 18 0 * τ 18 1 from by omega) J hw hl.1 lk_X10_105 ⟨Nat.le_of_ble_eq_true rfl, Nat.le_of_ble_eq_true rfl⟩ (Nat.le_of_ble_eq_true rfl) dX10_silts_17 (fun H locs hw => ?_)
        refine j_istore_n J (lv' := [(2, .int (I (mnM τ i))), (1, .int (I i)), (0, .ref (ad 0))]) hl dX10_silts_20 rfl (by decide) rfl (fun ls hl => ?_)
        refine j_aload_n J dX10_silts_21 rfl (lv_at hl 2 rfl) ?_
        refine mg_10_6 J hw lk_X10_29 dX10_silts_22 ?_
        refine j_iload_n J dX10_silts_25 rfl (lv_at hl 1 rfl) ?_
        refine j_aload_n J dX10_silts_26 rfl (lv_at hl 2 rfl) ?_
        refine mg_10_3 J hw lk_X10_20 dX10_silts_27 ?_
        refine j_iload_n J dX10_silts_30 rfl (lv_at hl 1 rfl) ?_
        refine ma_ld_2 J hw (show 0 ≤ i ∧ i < ((120 : Nat) : Int) from by omega) dX10_silts_31 ?_
        refine j_if_le J 53 (show rg (τ 2 i) by unfold rg; omega) dX10_silts_32 (by decide) (fun (h_3 : (τ 2 i) ≤ 0) => ?_) (fun (h_3 : 0 < (τ 2 i)) => ?_)
        · refine j_iconst J (0) dX10_silts_53 ?_
          refine ma_st_6 J hw (show 0 ≤ i ∧ i < ((120 : Nat) : Int) from by omega) dX10_silts_54 (fun H locs hw => ?_)
          refine j_iinc J (lv' := [(1, .int (I (i + 1))), (2, .int (I (mnM τ i))), (0, .ref (ad 0))]) (k := 1) hl dX10_silts_55 rfl (by decide) rfl (fun ls hl => ?_)
          refine j_goto J 2 dX10_silts_58 (by decide) ?_
          exact ih2 (st τ 6 i 0) (i + 1) (by omega) (slM_step hS (by rw [slM_eq hB hi0.1 (by omega), ← mnM_eqp hS.1, ← q2 hS.1, ← q1 hS.1]; first | exact (if_pos (by omega)).symm | exact (if_neg (by omega)).symm)) (by omega) _ _ _ hw (lv_sub hl [0, 2] rfl)
        · refine j_iload_n J dX10_silts_35 rfl (lv_at hl 0 rfl) ?_
          refine j_if_lt J 53 (show rg (mnM τ i) by unfold rg; omega) dX10_silts_36 (by decide) (fun (h_4 : (mnM τ i) < 0) => ?_) (fun (h_4 : 0 ≤ (mnM τ i)) => ?_)
          · refine j_iconst J (0) dX10_silts_53 ?_
            refine ma_st_6 J hw (show 0 ≤ i ∧ i < ((120 : Nat) : Int) from by omega) dX10_silts_54 (fun H locs hw => ?_)
            refine j_iinc J (lv' := [(1, .int (I (i + 1))), (2, .int (I (mnM τ i))), (0, .ref (ad 0))]) (k := 1) hl dX10_silts_55 rfl (by decide) rfl (fun ls hl => ?_)
            refine j_goto J 2 dX10_silts_58 (by decide) ?_
            exact ih2 (st τ 6 i 0) (i + 1) (by omega) (slM_step hS (by rw [slM_eq hB hi0.1 (by omega), ← mnM_eqp hS.1, ← q2 hS.1, ← q1 hS.1]; first | exact (if_pos (by omega)).symm | exact (if_neg (by omega)).symm)) (by omega) _ _ _ hw (lv_sub hl [0, 2] rfl)
          · refine j_aload_n J dX10_silts_39 rfl (lv_at hl 2 rfl) ?_
            refine mg_10_2 J hw lk_X10_16 dX10_silts_40 ?_
            refine j_iload_n J dX10_silts_43 rfl (lv_at hl 1 rfl) ?_
            refine ma_ld_1 J hw (show 0 ≤ i ∧ i < ((120 : Nat) : Int) from by omega) dX10_silts_44 ?_
            refine j_iload_n J dX10_silts_45 rfl (lv_at hl 0 rfl) ?_
            refine j_icmp_le J 53 (show rg (τ 1 i) by unfold rg; omega) (show rg (mnM τ i) by unfold rg; omega) dX10_silts_46 (by decide) (fun (h_5 : (τ 1 i) ≤ (mnM τ i)) => ?_) (fun (h_5 : (mnM τ i) < (τ 1 i)) => ?_)
            · refine j_iconst J (0) dX10_silts_53 ?_
              refine ma_st_6 J hw (show 0 ≤ i ∧ i < ((120 : Nat) : Int) from by omega) dX10_silts_54 (fun H locs hw => ?_)
              refine j_iinc J (lv' := [(1, .int (I (i + 1))), (2, .int (I (mnM τ i))), (0, .ref (ad 0))]) (k := 1) hl dX10_silts_55 rfl (by decide) rfl (fun ls hl => ?_)
              refine j_goto J 2 dX10_silts_58 (by decide) ?_
              exact ih2 (st τ 6 i 0) (i + 1) (by omega) (slM_step hS (by rw [slM_eq hB hi0.1 (by omega), ← mnM_eqp hS.1, ← q2 hS.1, ← q1 hS.1]; first | exact (if_pos (by omega)).symm | exact (if_neg (by omega)).symm)) (by omega) _ _ _ hw (lv_sub hl [0, 2] rfl)
            · refine j_iconst J (1) dX10_silts_49 ?_
              refine j_goto J 54 dX10_silts_50 (by decide) ?_
              refine ma_st_6 J hw (show 0 ≤ i ∧ i < ((120 : Nat) : Int) from by omega) dX10_silts_54 (fun H locs hw => ?_)
              refine j_iinc J (lv' := [(1, .int (I (i + 1))), (2, .int (I (mnM τ i))), (0, .ref (ad 0))]) (k := 1) hl dX10_silts_55 rfl (by decide) rfl (fun ls hl => ?_)
              refine j_goto J 2 dX10_silts_58 (by decide) ?_
              exact ih2 (st τ 6 i 1) (i + 1) (by omega) (slM_step hS (by rw [slM_eq hB hi0.1 (by omega), ← mnM_eqp hS.1, ← q2 hS.1, ← q1 hS.1]; first | exact (if_pos (by omega)).symm | exact (if_neg (by omega)).symm)) (by omega) _ _ _ hw (lv_sub hl [0, 2] rfl)
  exact L2 _ σ 0 (by omega) (⟨Eqp.rf, fun j h0 hj => absurd hj (by omega)⟩) (Nat.lt_succ_self _) _ _ _ hw (lv_sub hl [0, 1] rfl)
theorem k_X10_silts {p : Program} {l : Launch} {e : Env} {R : Room} {s : State} {m : MethodId} {args : Array Value} {below : List Frame} {meth : Method} {c : Code} {H : Heap} {locs : List Loc} {Q : State → Prop} {cc : ByteArray} {pc : Nat} {ls : Array Slot} {rest : List Value} {nL : Nat} {own : String} {D : va_G} {σ : St} {cI cZ : ClassId} {ad : Nat → Nat} {index : Nat}  (hD : ∀ τ, va_D (AD ad 45) (wsM cI cZ ad τ)) (hB : Bd σ) (J : Jx p m c cc nL s args own D [(cI, .int), (cZ, .boolean)] (AD ad 45) (wsM cI cZ ad)) (hw : jW D (AD ad 45) s.heap (wsM cI cZ ad σ) H locs) (hsz : ls.size = nL) (hlk : Cond.methodLink own index yX10_silts ∈ TBw) (hR : 2 ≤ R.frames ∧ 47 ≤ R.locals) (hroom : (rest.map fun v => v.category).sum ≤ 8) (hdg : decode cc pc = .ok (.invokevirtual index, 3)) (kk : ∀ (τ : St) (H1 : Heap) (locs1 : List Loc), (fun τ => Eqp τ (silS σ (σ 18 0 * σ 18 1))) τ → jW D (AD ad 45) s.heap (wsM cI cZ ad τ) H1 locs1 → W p l e R s m args below meth c H1 locs1 0 0 Q (F0 m (pc + 3) ls rest)) : W p l e R s m args below meth c H locs 0 0 Q (F0 m pc ls (.ref (ad 0) :: rest)) := 
  j_callVv J hw (c_X10_silts  hD hB) hlk in_X10_silts se_X10_silts ini_X10 co_X10_silts (n := 0) (by decide +kernel) ⟨rfl, rfl, hR.1, hR.2⟩ (j := 0) (ci := 10) rfl rfl rfl rfl hroom hsz ⟨Nat.zero_le _, Nat.zero_le _⟩ rfl hdg kk
def rm_X10_passes : Room := { frames := 2, cells := 0, slots := 0, locals := 48 }
set_option maxHeartbeats 4000000 in
set_option maxRecDepth 100000 in
theorem c_X10_passes {l : Launch} {D : va_G} {cI cZ : ClassId} {ad : Nat → Nat} {σ : St}  (hD : ∀ τ, va_D (AD ad 45) (wsM cI cZ ad τ)) (hB : Bd σ) (hn : σ 18 7 < 5000) : JMv l yX10_passes cX10_passes 1 rm_X10_passes D [(cI, .int), (cZ, .boolean)] (AD ad 45) (wsM cI cZ ad) [.ref (ad 0)] σ (fun τ => Eqp τ (hrS σ)) := by
  refine JMv.of RX10 (by decide +kernel) rfl (Nat.le_of_ble_eq_true rfl) hD ?_
  intro p e s m args below meth c Q J fin H ls hw hl
  generalize ([] : List Loc) = locs at hw ⊢
  have hl : lv_has ls 1 [(0, .ref (ad 0))] := hl
  have hh := hB.hour
  refine j_aload_n J dX10_passes_0 rfl (lv_at hl 0 rfl) ?_
  refine k_X10_drifts (σ := σ) hD (show Bd σ from hB) J hw hl.1 lk_X10_109 ⟨Nat.le_of_ble_eq_true rfl, Nat.le_of_ble_eq_true rfl⟩ (Nat.le_of_ble_eq_true rfl) dX10_passes_1 (fun τ1 H locs hp1 hw => ?_)
  have e7 : τ1 18 7 = σ 18 7 := qs hp1 7 (by decide)
  have hE1 := hr_M hp1
  have hB2 := (Bd_wt (σ 18 6) (Bd_dr (Bd_hour (h := σ 18 7 + 1) hB (by omega)))).eqp hE1
  refine j_aload_n J dX10_passes_4 rfl (lv_at hl 0 rfl) ?_
  refine j_dup J dX10_passes_5 rfl ?_
  refine mg_10_19 J hw lk_X10_76 dX10_passes_6 ?_
  refine j_iconst J (1) dX10_passes_9 ?_
  refine j_iadd J dX10_passes_10 ?_
  refine ms_10_19 J hw lk_X10_76 dX10_passes_11 (fun H locs hw => ?_)
  refine j_aload_n J dX10_passes_14 rfl (lv_at hl 0 rfl) ?_
  refine mg_10_19 J hw lk_X10_76 dX10_passes_15 ?_
  refine j_bipush J (24) dX10_passes_18 (by decide) ?_
  refine j_irem J (show 0 ≤ (τ1 18 7) + 1 ∧ ((τ1 18 7) + 1) < 2147483648 ∧ 0 < 24 ∧ 24 < 2147483648 from by omega) dX10_passes_20 ?_
  refine j_if_ne J 28 (show rg (((τ1 18 7) + 1) % 24) by unfold rg; omega) dX10_passes_21 (by decide) (fun (h_4 : ¬ (((τ1 18 7) + 1) % 24) = 0) => ?_) (fun (h_4 : (((τ1 18 7) + 1) % 24) = 0) => ?_)
  · exact fin (st τ1 18 7 ((τ1 18 7) + 1)) _ _ _ _ dX10_passes_28 (by unfold hrS; first | (rw [if_neg (by omega)]; exact hE1) | (rw [if_pos (by omega)]; refine hp2.tr ?_; have e0 : τ1 18 0 = σ 18 0 := qs hp1 0 (by decide); have e1 : τ1 18 1 = σ 18 1 := qs hp1 1 (by decide); show Eqp (silS (st τ1 18 7 (τ1 18 7 + 1)) (τ1 18 0 * τ1 18 1)) _; rw [e0, e1]; exact silS_eqp hE1 _)) hw
  · refine j_aload_n J dX10_passes_24 rfl (lv_at hl 0 rfl) ?_
    refine k_X10_silts (σ := st τ1 18 7 ((τ1 18 7) + 1)) hD (show Bd (st τ1 18 7 ((τ1 18 7) + 1)) from hB2) J hw hl.1 lk_X10_112 ⟨Nat.le_of_ble_eq_true rfl, Nat.le_of_ble_eq_true rfl⟩ (Nat.le_of_ble_eq_true rfl) dX10_passes_25 (fun τ2 H locs hp2 hw => ?_)
    exact fin (τ2) _ _ _ _ dX10_passes_28 (by unfold hrS; first | (rw [if_neg (by omega)]; exact hE1) | (rw [if_pos (by omega)]; refine hp2.tr ?_; have e0 : τ1 18 0 = σ 18 0 := qs hp1 0 (by decide); have e1 : τ1 18 1 = σ 18 1 := qs hp1 1 (by decide); show Eqp (silS (st τ1 18 7 (τ1 18 7 + 1)) (τ1 18 0 * τ1 18 1)) _; rw [e0, e1]; exact silS_eqp hE1 _)) hw
theorem k_X10_passes {p : Program} {l : Launch} {e : Env} {R : Room} {s : State} {m : MethodId} {args : Array Value} {below : List Frame} {meth : Method} {c : Code} {H : Heap} {locs : List Loc} {Q : State → Prop} {cc : ByteArray} {pc : Nat} {ls : Array Slot} {rest : List Value} {nL : Nat} {own : String} {D : va_G} {σ : St} {cI cZ : ClassId} {ad : Nat → Nat} {index : Nat}  (hD : ∀ τ, va_D (AD ad 45) (wsM cI cZ ad τ)) (hB : Bd σ) (hn : σ 18 7 < 5000) (J : Jx p m c cc nL s args own D [(cI, .int), (cZ, .boolean)] (AD ad 45) (wsM cI cZ ad)) (hw : jW D (AD ad 45) s.heap (wsM cI cZ ad σ) H locs) (hsz : ls.size = nL) (hlk : Cond.methodLink own index yX10_passes ∈ TBw) (hR : 3 ≤ R.frames ∧ 68 ≤ R.locals) (hroom : (rest.map fun v => v.category).sum ≤ 8) (hdg : decode cc pc = .ok (.invokevirtual index, 3)) (kk : ∀ (τ : St) (H1 : Heap) (locs1 : List Loc), (fun τ => Eqp τ (hrS σ)) τ → jW D (AD ad 45) s.heap (wsM cI cZ ad τ) H1 locs1 → W p l e R s m args below meth c H1 locs1 0 0 Q (F0 m (pc + 3) ls rest)) : W p l e R s m args below meth c H locs 0 0 Q (F0 m pc ls (.ref (ad 0) :: rest)) := 
  j_callVv J hw (c_X10_passes  hD hB hn) hlk in_X10_passes se_X10_passes ini_X10 co_X10_passes (n := 0) (by decide +kernel) ⟨rfl, rfl, hR.1, hR.2⟩ (j := 0) (ci := 10) rfl rfl rfl rfl hroom hsz ⟨Nat.zero_le _, Nat.zero_le _⟩ rfl hdg kk
def rm_X10_hours : Room := { frames := 3, cells := 0, slots := 0, locals := 68 }
set_option maxHeartbeats 4000000 in
set_option maxRecDepth 100000 in
theorem c_X10_hours {l : Launch} {D : va_G} {cI cZ : ClassId} {ad : Nat → Nat} {σ : St} {nh : Int} (hD : ∀ τ, va_D (AD ad 45) (wsM cI cZ ad τ)) (hB : Bd σ) (r_nh : rg nh) : JMi l yX10_hours cX10_hours 3 (some .int) rm_X10_hours D [(cI, .int), (cZ, .boolean)] (AD ad 45) (wsM cI cZ ad) [.ref (ad 0), .int (I nh)] σ (fun r τ => r = (hoursS σ nh).1 ∧ Eqp τ (hoursS σ nh).2) := by
  refine JMi.of RX10 (by decide +kernel) rfl (Nat.le_of_ble_eq_true rfl) hD ?_
  intro p e s m args below meth c Q J fin H ls hw hl
  generalize ([] : List Loc) = locs at hw ⊢
  have hl : lv_has ls 3 [(0, .ref (ad 0)), (1, .int (I nh))] := hl
  have hd : Dim _ := hB.dim
  have hd1 := hd.1; have hd2 := hd.2.1; have hd3 := hd.2.2.1; have hd4 := hd.2.2.2; have hm := hd.mul
  have u_nh := r_nh; unfold rg at u_nh
  have hh := hB.hour
  refine j_iload_n J dX10_hours_0 rfl (lv_at hl 1 rfl) ?_
  refine j_iconst J (1) dX10_hours_1 ?_
  refine j_sipush J (200) dX10_hours_2 (by decide) ?_
  refine k_X10_in (v := nh) (lo := 1) (hi := 200) (σ := σ) hD (show rg nh from by unfold rg; omega) (show rg 1 from by unfold rg; omega) (show rg 200 from by unfold rg; omega) J hw hl.1 lk_X10_69 ⟨Nat.le_of_ble_eq_true rfl, Nat.le_of_ble_eq_true rfl⟩ (Nat.le_of_ble_eq_true rfl) dX10_hours_5 (fun H locs hw => ?_)
  refine j_ifneB J 13 dX10_hours_8 (by decide) (fun (h_1 : 1 ≤ nh ∧ nh ≤ 200) => ?_) (fun (h_1 : ¬ (1 ≤ nh ∧ nh ≤ 200)) => ?_)
  · refine j_aload_n J dX10_hours_13 rfl (lv_at hl 0 rfl) ?_
    refine mg_10_19 J hw lk_X10_76 dX10_hours_14 ?_
    refine j_iload_n J dX10_hours_17 rfl (lv_at hl 1 rfl) ?_
    refine j_iadd J dX10_hours_18 ?_
    refine j_sipush J (5000) dX10_hours_19 (by decide) ?_
    refine j_icmp_le J 28 (show rg ((σ 18 7) + nh) by unfold rg; omega) (by unfold rg; omega) dX10_hours_22 (by decide) (fun (h_2 : ((σ 18 7) + nh) ≤ 5000) => ?_) (fun (h_2 : 5000 < ((σ 18 7) + nh)) => ?_)
    · refine j_iconst J (0) dX10_hours_28 ?_
      refine j_istore_n J (lv' := [(2, .int (I 0)), (0, .ref (ad 0)), (1, .int (I nh))]) hl dX10_hours_29 rfl (by decide) rfl (fun ls hl => ?_)
      have L30 : ∀ n : Nat, ∀ (τ : St) (i : Int), (0 ≤ i ∧ i ≤ nh) → (Eqp τ (hrN σ i)) → ((nh - i).toNat) < n → ∀ (H : Heap) (locs : List Loc) (ls : Array Slot), jW D (AD ad 45) s.heap (wsM cI cZ ad τ) H locs → lv_has ls 3 [(2, .int (I i)), (0, .ref (ad 0)), (1, .int (I nh))] → W p l e rm_X10_hours s m args below meth c H locs 0 0 Q (F0 m 30 ls []) := by
        intro n
        induction n with
        | zero =>
          intro τ i hi0 hE hm H locs ls hw hl
          exact absurd hm (Nat.not_lt_zero _)
        | succ n ih =>
          intro τ i hi0 hE hm H locs ls hw hl
          have ih30 := ih
          have hf := hrN_facts hB hi0.1 (show σ 18 7 + i ≤ 5000 by omega)
          have e7 : τ 18 7 = σ 18 7 + i := by rw [qs hE 7 (by decide)]; exact hf.2.1
          refine j_iload_n J dX10_hours_30 rfl (lv_at hl 0 rfl) ?_
          refine j_iload_n J dX10_hours_31 rfl (lv_at hl 2 rfl) ?_
          refine j_icmp_ge J 45 (show rg i by unfold rg; omega) (show rg nh by unfold rg; omega) dX10_hours_32 (by decide) (fun (h_3 : nh ≤ i) => ?_) (fun (h_3 : i < nh) => ?_)
          · refine j_aload_n J dX10_hours_45 rfl (lv_at hl 1 rfl) ?_
            refine mg_10_19 J hw lk_X10_76 dX10_hours_46 ?_
            exact fin _ (τ) _ _ _ _ dX10_hours_49 rfl (by unfold hoursS; rw [if_pos (by omega), if_neg (by omega)]; exact ⟨by show τ 18 7 = σ 18 7 + nh; omega, by rw [show nh = i by omega]; exact hE⟩) hw
          · refine j_aload_n J dX10_hours_35 rfl (lv_at hl 1 rfl) ?_
            refine k_X10_passes (σ := τ) hD (show Bd τ from hf.1.eqp hE) (show τ 18 7 < 5000 from by omega) J hw hl.1 lk_X10_115 ⟨Nat.le_of_ble_eq_true rfl, Nat.le_of_ble_eq_true rfl⟩ (Nat.le_of_ble_eq_true rfl) dX10_hours_36 (fun τ1 H locs hp1 hw => ?_)
            refine j_iinc J (lv' := [(2, .int (I (i + 1))), (0, .ref (ad 0)), (1, .int (I nh))]) (k := 0) hl dX10_hours_39 rfl (by decide) rfl (fun ls hl => ?_)
            refine j_goto J 30 dX10_hours_42 (by decide) ?_
            exact ih30 τ1 (i + 1) (by omega) (by rw [hrN_step hi0.1]; exact hp1.tr (hrS_eqp hE)) (by omega) _ _ _ hw (lv_sub hl [0, 1, 2] rfl)
      exact L30 _ σ 0 (by omega) (Eqp.rf) (Nat.lt_succ_self _) _ _ _ hw (lv_sub hl [0, 1, 2] rfl)
    · refine j_bipush J (-3) dX10_hours_25 (by decide) ?_
      exact fin _ (σ) _ _ _ _ dX10_hours_27 rfl (by first | (unfold hoursS; (repeat (first | rw [if_pos (by omega)] | rw [if_neg (by omega)])); exact ⟨rfl, Eqp.rf⟩) | (exfalso; omega)) hw
  · refine j_iconst J (-1) dX10_hours_11 ?_
    exact fin _ (σ) _ _ _ _ dX10_hours_12 rfl (by first | (unfold hoursS; (repeat (first | rw [if_pos (by omega)] | rw [if_neg (by omega)])); exact ⟨rfl, Eqp.rf⟩) | (exfalso; omega)) hw
theorem k_X10_hours {p : Program} {l : Launch} {e : Env} {R : Room} {s : State} {m : MethodId} {args : Array Value} {below : List Frame} {meth : Method} {c : Code} {H : Heap} {locs : List Loc} {Q : State → Prop} {cc : ByteArray} {pc : Nat} {ls : Array Slot} {rest : List Value} {nL : Nat} {own : String} {D : va_G} {σ : St} {cI cZ : ClassId} {ad : Nat → Nat} {index : Nat} {nh : Int} (hD : ∀ τ, va_D (AD ad 45) (wsM cI cZ ad τ)) (hB : Bd σ) (r_nh : rg nh) (J : Jx p m c cc nL s args own D [(cI, .int), (cZ, .boolean)] (AD ad 45) (wsM cI cZ ad)) (hw : jW D (AD ad 45) s.heap (wsM cI cZ ad σ) H locs) (hsz : ls.size = nL) (hlk : Cond.methodLink own index yX10_hours ∈ TBw) (hR : 4 ≤ R.frames ∧ 90 ≤ R.locals) (hroom : (rest.map fun v => v.category).sum ≤ 8) (hdg : decode cc pc = .ok (.invokevirtual index, 3)) (kk : ∀ (r : Int) (τ : St) (H1 : Heap) (locs1 : List Loc), (fun r τ => r = (hoursS σ nh).1 ∧ Eqp τ (hoursS σ nh).2) r τ → jW D (AD ad 45) s.heap (wsM cI cZ ad τ) H1 locs1 → W p l e R s m args below meth c H1 locs1 0 0 Q (F0 m (pc + 3) ls (.int (I r) :: rest))) : W p l e R s m args below meth c H locs 0 0 Q (F0 m pc ls (.int (I nh) :: .ref (ad 0) :: rest)) := 
  j_callVi J hw (c_X10_hours  hD hB r_nh) hlk in_X10_hours se_X10_hours ini_X10 co_X10_hours (n := 1) (by decide +kernel) ⟨rfl, rfl, hR.1, hR.2⟩ (j := 0) (ci := 10) rfl rfl rfl rfl hroom hsz ⟨Nat.zero_le _, Nat.zero_le _⟩ rfl hdg kk
