/-! what each call answers and leaves -/
theorem st_nk {σ : St} {k k2 : Nat} {i j v : Int} (h : k ≠ k2) : st σ k2 j v k i = σ k i := if_neg (fun z => h z.1)
theorem st_ni {σ : St} {k k2 : Nat} {i j v : Int} (h : i ≠ j) : st σ k2 j v k i = σ k i := if_neg (fun z => h z.2)
theorem fl_nk {σ : St} {k k2 : Nat} {i v n : Int} (h : k ≠ k2) : fl σ k2 v n k i = σ k i := if_neg (fun z => h z.1)
theorem tb_nk {σ : St} {k : Nat} {i n : Int} (h : k ≠ 8) : tbS σ n k i = σ k i := if_neg (fun z => h z.1)
def anS (σ : St) (c r : Int) : St := fun k i => match k with
  | 0 => st (st (st (st (st σ 0 0 5) 0 1 100) 0 2 50) 0 3 80) 0 4 0 0 i
  | 1 => fl σ 1 0 120 1 i
  | 2 => fl σ 2 0 120 2 i
  | 4 => fl σ 4 0 120 4 i
  | 5 => fl σ 5 0 120 5 i
  | 7 => fl σ 7 0 12 7 i
  | 8 => tbS σ 31 8 i
  | 10 => fl σ 10 0 3 10 i
  | 11 => fl σ 11 1000 3 11 i
  | 12 => fl σ 12 2 3 12 i
  | 17 => fl σ 17 0 6 17 i
  | 18 => st (st (st (st (st (st (st (st (st (st σ 18 0 c) 18 1 r) 18 2 0) 18 3 0) 18 4 0) 18 5 0) 18 6 0) 18 7 0) 18 8 0) 18 9 0 18 i
  | _ => σ k i
theorem eqp_of {τ σ : St} (h0 : ∀ i, τ 0 i = σ 0 i) (h1 : ∀ i, τ 1 i = σ 1 i) (h2 : ∀ i, τ 2 i = σ 2 i) (h4 : ∀ i, τ 4 i = σ 4 i) (h5 : ∀ i, τ 5 i = σ 5 i) (h7 : ∀ i, τ 7 i = σ 7 i) (h8 : ∀ i, τ 8 i = σ 8 i) (h10 : ∀ i, τ 10 i = σ 10 i) (h11 : ∀ i, τ 11 i = σ 11 i) (h12 : ∀ i, τ 12 i = σ 12 i) (h13 : ∀ i, τ 13 i = σ 13 i) (h14 : ∀ i, τ 14 i = σ 14 i) (h15 : ∀ i, τ 15 i = σ 15 i) (h16 : ∀ i, τ 16 i = σ 16 i) (h17 : ∀ i, τ 17 i = σ 17 i)
    (hs : ∀ i, i < 10 → τ 18 i = σ 18 i) (hr : ∀ k, 19 ≤ k → ∀ i, τ k i = σ k i) : Eqp τ σ := by
  intro k i hp
  match k, hp with
  | 0, _ => exact h0 i
  | 1, _ => exact h1 i
  | 2, _ => exact h2 i
  | 3, hp => exact absurd rfl hp.1
  | 4, _ => exact h4 i
  | 5, _ => exact h5 i
  | 6, hp => exact absurd rfl hp.2.1
  | 7, _ => exact h7 i
  | 8, _ => exact h8 i
  | 9, hp => exact absurd rfl hp.2.2.1
  | 10, _ => exact h10 i
  | 11, _ => exact h11 i
  | 12, _ => exact h12 i
  | 13, _ => exact h13 i
  | 14, _ => exact h14 i
  | 15, _ => exact h15 i
  | 16, _ => exact h16 i
  | 17, _ => exact h17 i
  | 18, hp => exact hs i (by have := hp.2.2.2; omega)
  | n + 19, _ => exact hr (n + 19) (by omega) i
def boardS (σ : St) (c r : Int) : Int × St := if 1 ≤ c ∧ c ≤ 12 ∧ 1 ≤ r ∧ r ≤ 10 then (c * r, anS σ c r) else (-1, σ)
def layS (σ : St) (c w v : Int) : Int × St := if 0 ≤ c ∧ c < σ 18 0 * σ 18 1 ∧ w = 0 ∧ 0 ≤ v ∧ v ≤ 400 then (σ 1 c, st σ 1 c v) else if 0 ≤ c ∧ c < σ 18 0 * σ 18 1 ∧ w = 1 ∧ 0 ≤ v ∧ v ≤ 300 then (σ 2 c, st σ 2 c v) else (-1, σ)
def ruleS (σ : St) (w v : Int) : Int × St := if (w = 0 ∧ 0 ≤ v ∧ v ≤ 50) ∨ (1 ≤ w ∧ w ≤ 3 ∧ 0 ≤ v ∧ v ≤ 400) ∨ (w = 4 ∧ -1 ≤ v ∧ v ≤ 1) then (σ 0 w, st σ 0 w v) else (-9, σ)
def tideS (σ : St) (h v : Int) : Int × St := if 0 ≤ h ∧ h ≤ 11 ∧ 0 ≤ v ∧ v ≤ 60 then (σ 7 h, st σ 7 h v) else (-1, σ)
def holdS (σ : St) (t v : Int) : Int × St := if 1 ≤ t ∧ t ≤ 30 ∧ 0 ≤ v ∧ v ≤ 200 then (σ 8 t, hdS σ t v t 1 31) else (-1, σ)
def spotS (σ : St) (s m h : Int) : Int × St := if 0 ≤ s ∧ s ≤ 2 ∧ 0 ≤ m ∧ m ≤ 100000 ∧ 1 ≤ h ∧ h ≤ 20 then (if m < σ 10 s then (-2, σ) else (σ 10 s, st (st σ 11 s m) 12 s h)) else (-1, σ)
def postS (σ : St) (c q : Int) : Int × St := if 0 ≤ c ∧ c < σ 18 0 * σ 18 1 ∧ 0 ≤ q ∧ q ≤ 10000 then (if 8 ≤ σ 18 6 then (-3, σ) else (σ 18 6, st (st (st (st σ 13 (σ 18 6) c) 14 (σ 18 6) q) 15 (σ 18 6) 0) 18 6 (σ 18 6 + 1))) else (-1, σ)
def bestS (σ : St) (s : Int) : Int × St := if 0 ≤ s ∧ s ≤ 2 then (bsN σ (σ 12 s) 29, σ) else (-1, σ)
def hoursS (σ : St) (n : Int) : Int × St := if 1 ≤ n ∧ n ≤ 200 then (if 5000 < σ 18 7 + n then (-3, σ) else (σ 18 7 + n, hrN σ n)) else (-1, σ)
def soundS (σ : St) (s : Int) : Int × St := if 0 ≤ s ∧ s ≤ 5 then (0, tkS σ s (σ 18 0 * σ 18 1)) else (-1, σ)
def loseS (σ : St) (s c : Int) : Int × St := if 0 ≤ s ∧ s ≤ 5 ∧ 0 ≤ c ∧ c < σ 18 0 * σ 18 1 then (if σ 17 s = 0 then (-2, σ) else (if ¬ σ 16 (s * 120 + c) = -4 then 1 else 0, st σ 16 (s * 120 + c) (-4))) else (-1, σ)
def joinF (σ : St) (sh tt : Int) : Int → Int := (fun c => if σ 16 (sh * 120 + c) = -4 ∧ ¬ σ 16 (tt * 120 + c) = -4 then 1 else 0)
def volF (σ : St) (sh tt : Int) : Int → Int := (fun c => if (¬ σ 16 (sh * 120 + c) = -4 ∧ ¬ σ 16 (tt * 120 + c) = -4) then σ 16 (tt * 120 + c) - σ 16 (sh * 120 + c) else 0)
def payF (σ : St) (sh tt ov : Int) : Int → Int := (fun c => if 0 < σ 2 c ∧ (¬ σ 16 (sh * 120 + c) = -4 ∧ ¬ σ 16 (tt * 120 + c) = -4) ∧ σ 2 c ≤ σ 16 (tt * 120 + c) then max 0 (min (σ 16 (tt * 120 + c)) (σ 2 c + ov) - σ 16 (sh * 120 + c)) else 0)
def unkF (σ : St) (sh tt : Int) : Int → Int := (fun c => if 0 < σ 2 c ∧ ¬ (¬ σ 16 (sh * 120 + c) = -4 ∧ ¬ σ 16 (tt * 120 + c) = -4) then 1 else 0)
def unfF (σ : St) : Int → Int := (fun c => if σ 1 c < σ 2 c then 1 else 0)
def joinS (σ : St) (s t : Int) : Int × St := if 0 ≤ s ∧ s ≤ 5 ∧ 0 ≤ t ∧ t ≤ 5 then (if σ 17 s = 0 ∨ σ 17 t = 0 then (-2, σ) else (sumI (joinF σ s t) (σ 18 0 * σ 18 1), jnS σ s t (σ 18 0 * σ 18 1))) else (-1, σ)
def betweenS (σ : St) (s t w : Int) : Int × St := if 0 ≤ s ∧ s ≤ 5 ∧ 0 ≤ t ∧ t ≤ 5 ∧ 0 ≤ w ∧ w ≤ 2 then (if σ 17 s = 0 ∨ σ 17 t = 0 then (-1000002, σ) else if w = 0 then (sumI (volF σ s t) (σ 18 0 * σ 18 1), σ) else if w = 1 then (sumI (payF σ s t (σ 0 0)) (σ 18 0 * σ 18 1), σ) else (sumI (unkF σ s t) (σ 18 0 * σ 18 1), σ)) else (-1000001, σ)
def soundedS (σ : St) (s c : Int) : Int × St := if 0 ≤ s ∧ s ≤ 5 ∧ 0 ≤ c ∧ c < σ 18 0 * σ 18 1 then (if σ 17 s = 0 then (-2, σ) else (σ 16 (s * 120 + c), σ)) else (-1, σ)
def cellS (σ : St) (c w : Int) : Int × St := if 0 ≤ c ∧ c < σ 18 0 * σ 18 1 then (if w = 0 then (σ 1 c, σ) else if w = 1 then (σ 2 c, σ) else if w = 2 then (σ 4 c, σ) else if w = 3 then (σ 5 c, σ) else (-1, σ)) else (-1, σ)
def aboutS (σ : St) (s w : Int) : Int × St := if 0 ≤ s ∧ s ≤ 2 then (if w = 0 then (σ 10 s, σ) else if w = 1 then (σ 11 s, σ) else if w = 2 then (σ 12 s, σ) else (-1, σ)) else (-1, σ)
def brokenS (σ : St) (q : Int) : Int × St := if 0 ≤ q ∧ q < σ 18 6 then (σ 15 q, σ) else (-1, σ)
def countS (σ : St) (w : Int) : Int × St := (if w = 0 then σ 18 0 else if w = 1 then σ 18 1 else if w = 2 then σ 18 7 else if w = 3 then σ 18 8 else if w = 4 then σ 18 9 else if w = 5 then σ 18 3 else if w = 6 then σ 18 4 else if w = 7 then σ 18 5 else if w = 8 then σ 18 2 else if w = 9 then sumI (unfF σ) (σ 18 0 * σ 18 1) else if w = 10 then σ 18 6 else -1, σ)
/-! a trip -/
def plS (σ : St) (row a b t : Int) : St := rd (p0S σ row a) a b (σ 8 t) (σ 0 0) 200
def hhS (σ : St) (ld aw : Int) : Int := if feN σ ((if ld = 0 then σ 0 2 else σ 0 3) - σ 0 1) 12 (σ 18 7 + 1) = -1 then -1 else if feN σ (σ 0 2 - σ 0 1) 12 (feN σ ((if ld = 0 then σ 0 2 else σ 0 3) - σ 0 1) 12 (σ 18 7 + 1) + aw) = -1 then -1 else feN σ (σ 0 2 - σ 0 1) 12 (feN σ ((if ld = 0 then σ 0 2 else σ 0 3) - σ 0 1) 12 (σ 18 7 + 1) + aw) + aw
def coS (P : St) (t s : Int) : St := st (st (st (st (st (dpS P (P 18 0)) 4 (P 18 12) (P 4 (P 18 12) + max 0 (t * 4 - P 18 11))) 18 3 (P 18 3 + max 0 (t * 4 - P 18 11))) 10 s (P 10 s + P 18 11)) 18 9 (P 18 9 + P 18 11)) 18 8 (P 18 8 + 1)
def tripS (σ : St) (row a b t s : Int) : Int × St := if 0 ≤ row ∧ row < σ 18 1 ∧ 0 ≤ a ∧ a < σ 18 0 ∧ 0 ≤ b ∧ b < σ 18 0 ∧ 0 ≤ t ∧ t ≤ 30 ∧ 0 ≤ s ∧ s ≤ 2 then
  (if ¬ σ 10 s + plS σ row a b t 18 11 ≤ σ 11 s then (-2, σ) else if hhS σ (plS σ row a b t 18 11) (σ 12 s) = -1 then (-2, σ) else if 5000 < hhS σ (plS σ row a b t 18 11) (σ 12 s) then (-3, σ) else
    (plS σ row a b t 18 11, hrN (coS (plS σ row a b t) t s) (hhS σ (plS σ row a b t 18 11) (σ 12 s) - σ 18 7))) else (-1, σ)
theorem feN_rng {σ : St} {h : Int} : ∀ (n : Nat) (x : Int), feN σ h n x = -1 ∨ (x ≤ feN σ h n x ∧ feN σ h n x < x + n) := by
  intro n
  induction n with
  | zero => intro x; exact Or.inl rfl
  | succ n ih =>
    intro x
    show (if h ≤ σ 7 (x % 12) then x else feN σ h n (x + 1)) = -1 ∨ (x ≤ (if h ≤ σ 7 (x % 12) then x else feN σ h n (x + 1)) ∧ (if h ≤ σ 7 (x % 12) then x else feN σ h n (x + 1)) < x + ((n + 1 : Nat) : Int))
    split
    · right; omega
    · rcases ih (x + 1) with q | q
      · exact Or.inl q
      · right; omega
/-- what a plan gives -/
theorem pl_facts {σ : St} {row a b t : Int} (hB : Bd σ) (ha : 0 ≤ a ∧ a < σ 18 0) (hb : 0 ≤ b ∧ b < σ 18 0) : Eqp (plS σ row a b t) σ ∧ plS σ row a b t 18 10 = row ∧ (∀ x, 0 ≤ x → x < 12 → 0 ≤ plS σ row a b t 9 x ∧ plS σ row a b t 9 x ≤ 350) ∧ 0 ≤ plS σ row a b t 18 11 ∧ plS σ row a b t 18 11 ≤ 200 := by
  have hd2 := hB.dim.2.1
  obtain ⟨f1, f2, f3, f4, f5⟩ := rd_facts (σ := p0S σ row a) (a := a) (b := b) (w := σ 8 t) (ov := σ 0 0) (n := 200) (hB.eqp p0_eqp) hB.over (hB.table t).2 (by omega) (by omega) p0_hp (by show (0 : Int) ≤ 200; decide)
  exact ⟨f1.tr p0_eqp, f2, f3, f4, f5⟩
def PlZ (σ τ : St) : Prop := Eqp τ σ ∧ τ 18 10 = σ 18 10 ∧ (0 ≤ τ 18 12 ∧ τ 18 12 < σ 18 0 * σ 18 1) ∧ ∀ x, 0 ≤ x → x < 12 → 0 ≤ τ 9 x ∧ (τ 9 x = 0 ∨ σ 1 (σ 18 10 * σ 18 0 + x) + τ 9 x ≤ 350)
theorem pcS_Z {σ τ : St} {ov x : Int} (hB : Bd σ) (ho : 0 ≤ ov ∧ ov ≤ 50) (hr : 0 ≤ σ 18 10 ∧ σ 18 10 < σ 18 1) (hx : 0 ≤ x ∧ x < σ 18 0) (h : PlZ σ τ) : PlZ σ (pcS τ ov x) := by
  obtain ⟨h1, h2, h3, h4⟩ := h
  have hci := cell_in hr.1 hr.2 hx.1 hx.2
  have e0 : τ 18 0 = σ 18 0 := qs h1 0 (by decide)
  unfold pcS
  split
  · rename_i hc
    refine ⟨((h1.st npub9).st (npubS (by decide))).st (npubS (by decide)), h2, ?_, fun y hy0 hy => ?_⟩
    · show 0 ≤ τ 18 10 * τ 18 0 + x ∧ τ 18 10 * τ 18 0 + x < σ 18 0 * σ 18 1
      rw [h2, e0]; omega
    · show 0 ≤ (if 9 = 9 ∧ y = x then τ 9 x + 1 else τ 9 y) ∧ ((if 9 = 9 ∧ y = x then τ 9 x + 1 else τ 9 y) = 0 ∨ σ 1 (σ 18 10 * σ 18 0 + y) + (if 9 = 9 ∧ y = x then τ 9 x + 1 else τ 9 y) ≤ 350)
      by_cases e : y = x
      · subst e
        rw [if_pos ⟨rfl, rfl⟩]
        unfold rmS at hc
        rw [h2, e0, q1 h1, q2 h1] at hc
        have b1 := hB.depth (σ 18 10 * σ 18 0 + y); have b2 := hB.design (σ 18 10 * σ 18 0 + y)
        have b3 := h4 y hy0 hy
        split at hc <;> omega
      · rw [if_neg (fun q => e q.2)]
        exact h4 y hy0 hy
  · exact ⟨h1, h2, h3, h4⟩
theorem rnS_Z {σ τ : St} {a b w ov : Int} (hB : Bd σ) (ho : 0 ≤ ov ∧ ov ≤ 50) (hr : 0 ≤ σ 18 10 ∧ σ 18 10 < σ 18 1) (ha : 0 ≤ a ∧ a < σ 18 0) (hb : 0 ≤ b ∧ b < σ 18 0) (h : PlZ σ τ) : PlZ σ (rnS τ a b w ov) := by
  have hd2 := hB.dim.2.1
  have hab := absI_rng (z := b - a) (by omega)
  have hab2 := absI_or (b - a)
  unfold rnS rn
  refine itI_ind (fun _ τ => PlZ σ τ) (by omega) h (fun i q h0 hi hq => ?_)
  show PlZ σ (if q 18 11 < w then pcS q ov (a + i * (if a ≤ b then 1 else -1)) else q)
  split
  · refine pcS_Z hB ho hr ?_ hq
    by_cases c : a ≤ b
    · rw [if_pos c]; omega
    · rw [if_neg c]; omega
  · exact hq
theorem pl_more {σ : St} {row a b t : Int} (hB : Bd σ) (hr : 0 ≤ row ∧ row < σ 18 1) (ha : 0 ≤ a ∧ a < σ 18 0) (hb : 0 ≤ b ∧ b < σ 18 0) : (0 ≤ plS σ row a b t 18 12 ∧ plS σ row a b t 18 12 < σ 18 0 * σ 18 1) ∧ ∀ x, 0 ≤ x → x < 12 → plS σ row a b t 9 x = 0 ∨ σ 1 (row * σ 18 0 + x) + plS σ row a b t 9 x ≤ 350 := by
  have hci := cell_in hr.1 hr.2 ha.1 ha.2
  have hz : PlZ (p0S σ row a) (plS σ row a b t) := by
    refine itI_ind (fun _ τ => PlZ (p0S σ row a) τ) (by omega) ⟨Eqp.rf, rfl, ?_, fun x h0 h => by have e : p0S σ row a 9 x = 0 := if_pos ⟨rfl, h0, h⟩; rw [e]; exact ⟨Int.le_refl 0, Or.inl rfl⟩⟩ (fun i q h0 hi hq => rnS_Z (hB.eqp p0_eqp) hB.over hr ha hb hq)
    show 0 ≤ row * σ 18 0 + a ∧ row * σ 18 0 + a < σ 18 0 * σ 18 1
    omega
  exact ⟨hz.2.2.1, fun x h0 h => (hz.2.2.2 x h0 h).2⟩
theorem hh_rng {σ : St} {ld aw : Int} (ha : 1 ≤ aw) : hhS σ ld aw = -1 ∨ (σ 18 7 + 1 ≤ hhS σ ld aw ∧ hhS σ ld aw ≤ σ 18 7 + 100 + 2 * aw) := by
  unfold hhS
  generalize (if ld = 0 then σ 0 2 else σ 0 3) - σ 0 1 = z
  split
  · exact Or.inl rfl
  · rename_i h1
    split
    · exact Or.inl rfl
    · rename_i h2
      right
      have g1 := feN_rng (σ := σ) (h := z) 12 (σ 18 7 + 1)
      have g2 := feN_rng (σ := σ) (h := σ 0 2 - σ 0 1) 12 (feN σ z 12 (σ 18 7 + 1) + aw)
      omega
theorem hhS_eqp {σ τ : St} (h : Eqp τ σ) (ld aw : Int) : hhS τ ld aw = hhS σ ld aw := by
  unfold hhS
  simp only [feN_eqp h, q0 h, qs h 7 (by decide)]
theorem co_at {P : St} {t s : Int} {k : Nat} {i : Int} (h1 : k ≠ 1) (h4 : k ≠ 4) (h10 : k ≠ 10) (h18 : k ≠ 18) : coS P t s k i = P k i := by
  unfold coS
  rw [st_nk h18, st_nk h18, st_nk h10, st_nk h18, st_nk h4]
  unfold dpS
  rw [if_neg (fun z => h1 z.1)]
theorem Bd_co {σ : St} {row a b t s : Int} (hB : Bd σ) (hr : 0 ≤ row ∧ row < σ 18 1) (ha : 0 ≤ a ∧ a < σ 18 0) (hb : 0 ≤ b ∧ b < σ 18 0) (ht : 0 ≤ t ∧ t ≤ 30) (htr : σ 18 8 ≤ 5000) (hf : σ 10 s + plS σ row a b t 18 11 ≤ σ 11 s) : Bd (coS (plS σ row a b t) t s) := by
  obtain ⟨hE, hrow, hp, hl0, hl1⟩ := pl_facts (row := row) (t := t) hB ha hb
  obtain ⟨hla, hpz⟩ := pl_more (t := t) hB hr ha hb
  have hP := hB.eqp hE
  generalize hPe : plS σ row a b t = P at *
  have e : ∀ k i, k ≠ 1 → k ≠ 4 → k ≠ 10 → k ≠ 18 → coS P t s k i = P k i := fun k i h1 h4 h10 h18 => co_at h1 h4 h10 h18
  have s0 : coS P t s 18 0 = P 18 0 := rfl
  have s1 : coS P t s 18 1 = P 18 1 := rfl
  have s6 : coS P t s 18 6 = P 18 6 := rfl
  have s7 : coS P t s 18 7 = P 18 7 := rfl
  have s8 : coS P t s 18 8 = P 18 8 + 1 := rfl
  have d1 : ∀ i, coS P t s 1 i = dpS P (P 18 0) 1 i := fun _ => rfl
  have d4 : ∀ i, coS P t s 4 i = st P 4 (P 18 12) (P 4 (P 18 12) + max 0 (t * 4 - P 18 11)) 4 i := fun _ => rfl
  have d10 : ∀ i, coS P t s 10 i = st P 10 s (P 10 s + P 18 11) 10 i := fun _ => rfl
  have hP2 := hP
  unfold Bd Dim at hP ⊢
  simp only [e 0 _ (by decide) (by decide) (by decide) (by decide), e 2 _ (by decide) (by decide) (by decide) (by decide), e 5 _ (by decide) (by decide) (by decide) (by decide), e 7 _ (by decide) (by decide) (by decide) (by decide), e 8 _ (by decide) (by decide) (by decide) (by decide), e 11 _ (by decide) (by decide) (by decide) (by decide), e 12 _ (by decide) (by decide) (by decide) (by decide), e 13 _ (by decide) (by decide) (by decide) (by decide), e 14 _ (by decide) (by decide) (by decide) (by decide), e 16 _ (by decide) (by decide) (by decide) (by decide), e 17 _ (by decide) (by decide) (by decide) (by decide), s0, s1, s6, s7, s8, d1, d4, d10]
  obtain ⟨a1, a2, a3, a4, a5, a6, a7, a8, a9, a10, a11, a12, a13, a14, a15, a16, a17, a18⟩ := hP
  have e8 : P 18 8 = σ 18 8 := qs hE 8 (by decide)
  have e0 : P 18 0 = σ 18 0 := qs hE 0 (by decide)
  refine ⟨a1, fun c => ?_, a3, fun c => ?_, a5, a6, a7, a8, a9, a10, fun c => ?_, a12, a13, a14, a15, a16, a17, ⟨by omega, by omega⟩, a18.2⟩
  · unfold dpS
    split
    · rename_i q
      obtain ⟨-, q1', q2'⟩ := q
      have b1 := hP2.depth c
      rw [hrow, e0] at q1' q2' ⊢
      have h12 := hB.dim.2.1
      have h9 := hp (c - row * σ 18 0) (by omega) (by omega)
      have h9' := hpz (c - row * σ 18 0) (by omega) (by omega)
      rw [show row * σ 18 0 + (c - row * σ 18 0) = c by omega] at h9'
      have e1 := q1 hE c
      omega
    · exact a2 c
  · show 0 ≤ (if 4 = 4 ∧ c = P 18 12 then P 4 (P 18 12) + max 0 (t * 4 - P 18 11) else P 4 c) ∧ (if 4 = 4 ∧ c = P 18 12 then P 4 (P 18 12) + max 0 (t * 4 - P 18 11) else P 4 c) ≤ _
    have b1 := a4 c; have b2 := a4 (P 18 12)
    split <;> omega
  · show 0 ≤ (if 10 = 10 ∧ c = s then P 10 s + P 18 11 else P 10 c) ∧ (if 10 = 10 ∧ c = s then P 10 s + P 18 11 else P 10 c) ≤ _
    have b1 := a11 c; have b2 := a11 s; have b3 := a12 s
    have e10 := q10 hE s; have e11 := q11 hE s
    split <;> omega
theorem co_hour {P : St} {t s : Int} : coS P t s 18 7 = P 18 7 := rfl

def rm_X9_startRules : Room := { frames := 1, cells := 0, slots := 0, locals := 23 }
set_option maxHeartbeats 4000000 in
set_option maxRecDepth 100000 in
theorem c_X9_startRules {l : Launch} {D : va_G} {cI cZ : ClassId} {ad : Nat → Nat} {σ : St}  (hD : ∀ τ, va_D (AD ad 45) (wsX cI ad τ))  : JMv l yX9_startRules cX9_startRules 1 rm_X9_startRules D [(cI, .int), (cZ, .boolean)] (AD ad 45) (wsX cI ad) [.ref (ad 0)] σ (fun τ => τ = st (st (st (st (st σ 0 0 5) 0 1 100) 0 2 50) 0 3 80) 0 4 0) := by
  refine JMv.of RX9 (by decide +kernel) rfl (Nat.le_of_ble_eq_true rfl) hD ?_
  intro p e s m args below meth c Q J fin H ls hw hl
  generalize ([] : List Loc) = locs at hw ⊢
  have hl : lv_has ls 1 [(0, .ref (ad 0))] := hl
  refine j_aload_n J dX9_startRules_0 rfl (lv_at hl 0 rfl) ?_
  refine xg_9_0 J hw lk_X9_14 dX9_startRules_1 ?_
  refine j_iconst J (0) dX9_startRules_4 ?_
  refine j_iconst J (5) dX9_startRules_5 ?_
  refine k_X2_put (k := 0) (i := 0) (v := 5) (σ := σ) hD (by decide) (show 0 ≤ 0 ∧ 0 < ((5 : Nat) : Int) from by omega) J hw hl.1 lk_X9_93 ⟨Nat.le_of_ble_eq_true rfl, Nat.le_of_ble_eq_true rfl⟩ (Nat.le_of_ble_eq_true rfl) dX9_startRules_6 (fun H locs hw => ?_)
  refine j_pop J dX9_startRules_9 rfl ?_
  refine j_aload_n J dX9_startRules_10 rfl (lv_at hl 0 rfl) ?_
  refine xg_9_0 J hw lk_X9_14 dX9_startRules_11 ?_
  refine j_iconst J (1) dX9_startRules_14 ?_
  refine j_bipush J (100) dX9_startRules_15 (by decide) ?_
  refine k_X2_put (k := 0) (i := 1) (v := 100) (σ := st σ 0 0 5) hD (by decide) (show 0 ≤ 1 ∧ 1 < ((5 : Nat) : Int) from by omega) J hw hl.1 lk_X9_93 ⟨Nat.le_of_ble_eq_true rfl, Nat.le_of_ble_eq_true rfl⟩ (Nat.le_of_ble_eq_true rfl) dX9_startRules_17 (fun H locs hw => ?_)
  refine j_pop J dX9_startRules_20 rfl ?_
  refine j_aload_n J dX9_startRules_21 rfl (lv_at hl 0 rfl) ?_
  refine xg_9_0 J hw lk_X9_14 dX9_startRules_22 ?_
  refine j_iconst J (2) dX9_startRules_25 ?_
  refine j_bipush J (50) dX9_startRules_26 (by decide) ?_
  refine k_X2_put (k := 0) (i := 2) (v := 50) (σ := st (st σ 0 0 5) 0 1 100) hD (by decide) (show 0 ≤ 2 ∧ 2 < ((5 : Nat) : Int) from by omega) J hw hl.1 lk_X9_93 ⟨Nat.le_of_ble_eq_true rfl, Nat.le_of_ble_eq_true rfl⟩ (Nat.le_of_ble_eq_true rfl) dX9_startRules_28 (fun H locs hw => ?_)
  refine j_pop J dX9_startRules_31 rfl ?_
  refine j_aload_n J dX9_startRules_32 rfl (lv_at hl 0 rfl) ?_
  refine xg_9_0 J hw lk_X9_14 dX9_startRules_33 ?_
  refine j_iconst J (3) dX9_startRules_36 ?_
  refine j_bipush J (80) dX9_startRules_37 (by decide) ?_
  refine k_X2_put (k := 0) (i := 3) (v := 80) (σ := st (st (st σ 0 0 5) 0 1 100) 0 2 50) hD (by decide) (show 0 ≤ 3 ∧ 3 < ((5 : Nat) : Int) from by omega) J hw hl.1 lk_X9_93 ⟨Nat.le_of_ble_eq_true rfl, Nat.le_of_ble_eq_true rfl⟩ (Nat.le_of_ble_eq_true rfl) dX9_startRules_39 (fun H locs hw => ?_)
  refine j_pop J dX9_startRules_42 rfl ?_
  refine j_aload_n J dX9_startRules_43 rfl (lv_at hl 0 rfl) ?_
  refine xg_9_0 J hw lk_X9_14 dX9_startRules_44 ?_
  refine j_iconst J (4) dX9_startRules_47 ?_
  refine j_iconst J (0) dX9_startRules_48 ?_
  refine k_X2_put (k := 0) (i := 4) (v := 0) (σ := st (st (st (st σ 0 0 5) 0 1 100) 0 2 50) 0 3 80) hD (by decide) (show 0 ≤ 4 ∧ 4 < ((5 : Nat) : Int) from by omega) J hw hl.1 lk_X9_93 ⟨Nat.le_of_ble_eq_true rfl, Nat.le_of_ble_eq_true rfl⟩ (Nat.le_of_ble_eq_true rfl) dX9_startRules_49 (fun H locs hw => ?_)
  refine j_pop J dX9_startRules_52 rfl ?_
  exact fin _ _ _ _ _ dX9_startRules_53 (rfl) hw
theorem k_X9_startRules {p : Program} {l : Launch} {e : Env} {R : Room} {s : State} {m : MethodId} {args : Array Value} {below : List Frame} {meth : Method} {c : Code} {H : Heap} {locs : List Loc} {Q : State → Prop} {cc : ByteArray} {pc : Nat} {ls : Array Slot} {rest : List Value} {nL : Nat} {own : String} {D : va_G} {σ : St} {cI cZ : ClassId} {ad : Nat → Nat} {index : Nat}  (hD : ∀ τ, va_D (AD ad 45) (wsX cI ad τ))  (J : Jx p m c cc nL s args own D [(cI, .int), (cZ, .boolean)] (AD ad 45) (wsX cI ad)) (hw : jW D (AD ad 45) s.heap (wsX cI ad σ) H locs) (hsz : ls.size = nL) (hlk : Cond.methodLink own index yX9_startRules ∈ TBw) (hR : 2 ≤ R.frames ∧ 43 ≤ R.locals) (hroom : (rest.map fun v => v.category).sum ≤ 8) (hdg : decode cc pc = .ok (.invokevirtual index, 3)) (kk : ∀ (H1 : Heap) (locs1 : List Loc), jW D (AD ad 45) s.heap (wsX cI ad (st (st (st (st (st σ 0 0 5) 0 1 100) 0 2 50) 0 3 80) 0 4 0)) H1 locs1 → W p l e R s m args below meth c H1 locs1 0 0 Q (F0 m (pc + 3) ls rest)) : W p l e R s m args below meth c H locs 0 0 Q (F0 m pc ls (.ref (ad 0) :: rest)) := 
  j_callVv J hw (c_X9_startRules  hD ) hlk in_X9_startRules se_X9_startRules ini_X9 co_X9_startRules (n := 0) (by decide +kernel) ⟨rfl, rfl, hR.1, hR.2⟩ (j := 0) (ci := 9) rfl rfl rfl rfl hroom hsz ⟨Nat.zero_le _, Nat.zero_le _⟩ rfl hdg (fun τ H1 locs1 hp hw1 => by subst hp; exact kk H1 locs1 hw1)
def rm_X9_startAnew : Room := { frames := 2, cells := 0, slots := 0, locals := 44 }
set_option maxHeartbeats 4000000 in
set_option maxRecDepth 100000 in
theorem c_X9_startAnew {l : Launch} {D : va_G} {cI cZ : ClassId} {ad : Nat → Nat} {σ : St} {c1 r1 : Int} (hD : ∀ τ, va_D (AD ad 45) (wsX cI ad τ))  : JMv l yX9_startAnew cX9_startAnew 3 rm_X9_startAnew D [(cI, .int), (cZ, .boolean)] (AD ad 45) (wsX cI ad) [.ref (ad 0), .int (I c1), .int (I r1)] σ (fun τ => Eqp τ (anS σ c1 r1)) := by
  refine JMv.of RX9 (by decide +kernel) rfl (Nat.le_of_ble_eq_true rfl) hD ?_
  intro p e s m args below meth c Q J fin H ls hw hl
  generalize ([] : List Loc) = locs at hw ⊢
  have hl : lv_has ls 3 [(0, .ref (ad 0)), (1, .int (I c1)), (2, .int (I r1))] := hl
  refine j_aload_n J dX9_startAnew_0 rfl (lv_at hl 0 rfl) ?_
  refine xg_9_1 J hw lk_X9_21 dX9_startAnew_1 ?_
  refine j_iload_n J dX9_startAnew_4 rfl (lv_at hl 1 rfl) ?_
  refine j_iload_n J dX9_startAnew_5 rfl (lv_at hl 2 rfl) ?_
  refine k_X1_start (c1 := c1) (r1 := r1) (σ := σ) hD  J hw hl.1 lk_X9_238 ⟨Nat.le_of_ble_eq_true rfl, Nat.le_of_ble_eq_true rfl⟩ (Nat.le_of_ble_eq_true rfl) dX9_startAnew_6 (fun H locs hw => ?_)
  refine j_aload_n J dX9_startAnew_9 rfl (lv_at hl 0 rfl) ?_
  refine xg_9_2 J hw lk_X9_28 dX9_startAnew_10 ?_
  refine k_X0_start (σ := fl (fl (st (st (st σ 18 0 c1) 18 1 r1) 18 2 0) 1 0 120) 2 0 120) hD  J hw hl.1 lk_X9_241 ⟨Nat.le_of_ble_eq_true rfl, Nat.le_of_ble_eq_true rfl⟩ (Nat.le_of_ble_eq_true rfl) dX9_startAnew_13 (fun H locs hw => ?_)
  refine j_aload_n J dX9_startAnew_16 rfl (lv_at hl 0 rfl) ?_
  refine xg_9_3 J hw lk_X9_35 dX9_startAnew_17 ?_
  refine xg_8_0 J hw lk_X9_107 dX9_startAnew_20 ?_
  refine j_iconst J (0) dX9_startAnew_23 ?_
  refine k_X2_fill (k := 7) (v := 0) (σ := st (st (st (fl (fl (fl (fl (st (st (st σ 18 0 c1) 18 1 r1) 18 2 0) 1 0 120) 2 0 120) 4 0 120) 5 0 120) 18 3 0) 18 4 0) 18 5 0) hD (by decide) J hw hl.1 lk_X9_243 ⟨Nat.le_of_ble_eq_true rfl, Nat.le_of_ble_eq_true rfl⟩ (Nat.le_of_ble_eq_true rfl) dX9_startAnew_24 (fun H locs hw => ?_)
  refine j_aload_n J dX9_startAnew_27 rfl (lv_at hl 0 rfl) ?_
  refine xg_9_4 J hw lk_X9_42 dX9_startAnew_28 ?_
  refine k_X6_start (σ := fl (st (st (st (fl (fl (fl (fl (st (st (st σ 18 0 c1) 18 1 r1) 18 2 0) 1 0 120) 2 0 120) 4 0 120) 5 0 120) 18 3 0) 18 4 0) 18 5 0) 7 0 12) hD  J hw hl.1 lk_X9_246 ⟨Nat.le_of_ble_eq_true rfl, Nat.le_of_ble_eq_true rfl⟩ (Nat.le_of_ble_eq_true rfl) dX9_startAnew_31 (fun H locs hw => ?_)
  refine j_aload_n J dX9_startAnew_34 rfl (lv_at hl 0 rfl) ?_
  refine xg_9_6 J hw lk_X9_56 dX9_startAnew_35 ?_
  refine k_X7_start (σ := tbS (fl (st (st (st (fl (fl (fl (fl (st (st (st σ 18 0 c1) 18 1 r1) 18 2 0) 1 0 120) 2 0 120) 4 0 120) 5 0 120) 18 3 0) 18 4 0) 18 5 0) 7 0 12) 31) hD  J hw hl.1 lk_X9_247 ⟨Nat.le_of_ble_eq_true rfl, Nat.le_of_ble_eq_true rfl⟩ (Nat.le_of_ble_eq_true rfl) dX9_startAnew_38 (fun H locs hw => ?_)
  refine j_aload_n J dX9_startAnew_41 rfl (lv_at hl 0 rfl) ?_
  refine xg_9_7 J hw lk_X9_63 dX9_startAnew_42 ?_
  refine j_iconst J (0) dX9_startAnew_45 ?_
  refine xs_4_3 J hw lk_X9_236 dX9_startAnew_46 (fun H locs hw => ?_)
  refine j_aload_n J dX9_startAnew_49 rfl (lv_at hl 0 rfl) ?_
  refine xg_9_8 J hw lk_X9_70 dX9_startAnew_50 ?_
  refine k_X5_start (σ := st (fl (fl (fl (tbS (fl (st (st (st (fl (fl (fl (fl (st (st (st σ 18 0 c1) 18 1 r1) 18 2 0) 1 0 120) 2 0 120) 4 0 120) 5 0 120) 18 3 0) 18 4 0) 18 5 0) 7 0 12) 31) 10 0 3) 11 1000 3) 12 2 3) 18 6 0) hD  J hw hl.1 lk_X9_248 ⟨Nat.le_of_ble_eq_true rfl, Nat.le_of_ble_eq_true rfl⟩ (Nat.le_of_ble_eq_true rfl) dX9_startAnew_53 (fun H locs hw => ?_)
  refine j_aload_n J dX9_startAnew_56 rfl (lv_at hl 0 rfl) ?_
  refine k_X9_startRules (σ := fl (st (fl (fl (fl (tbS (fl (st (st (st (fl (fl (fl (fl (st (st (st σ 18 0 c1) 18 1 r1) 18 2 0) 1 0 120) 2 0 120) 4 0 120) 5 0 120) 18 3 0) 18 4 0) 18 5 0) 7 0 12) 31) 10 0 3) 11 1000 3) 12 2 3) 18 6 0) 17 0 6) hD  J hw hl.1 lk_X9_249 ⟨Nat.le_of_ble_eq_true rfl, Nat.le_of_ble_eq_true rfl⟩ (Nat.le_of_ble_eq_true rfl) dX9_startAnew_57 (fun H locs hw => ?_)
  refine j_aload_n J dX9_startAnew_60 rfl (lv_at hl 0 rfl) ?_
  refine j_iconst J (0) dX9_startAnew_61 ?_
  refine xs_9_9 J hw lk_X9_162 dX9_startAnew_62 (fun H locs hw => ?_)
  refine j_aload_n J dX9_startAnew_65 rfl (lv_at hl 0 rfl) ?_
  refine j_iconst J (0) dX9_startAnew_66 ?_
  refine xs_9_10 J hw lk_X9_215 dX9_startAnew_67 (fun H locs hw => ?_)
  refine j_aload_n J dX9_startAnew_70 rfl (lv_at hl 0 rfl) ?_
  refine j_iconst J (0) dX9_startAnew_71 ?_
  refine xs_9_11 J hw lk_X9_218 dX9_startAnew_72 (fun H locs hw => ?_)
  exact fin _ _ _ _ _ dX9_startAnew_75 (eqp_of (fun _ => rfl) (fun _ => rfl) (fun _ => rfl) (fun _ => rfl) (fun _ => rfl) (fun _ => rfl) (fun _ => rfl) (fun _ => rfl) (fun _ => rfl) (fun _ => rfl) (fun _ => rfl) (fun _ => rfl) (fun _ => rfl) (fun _ => rfl) (fun _ => rfl) (fun _ _ => rfl) (fun k hk i => by obtain ⟨n, rfl⟩ : ∃ n, k = n + 19 := ⟨k - 19, by omega⟩; have hj : ∀ j, j < 19 → n + 19 ≠ j := fun j h => (by omega); simp only [st_nk (hj 0 (by decide)), st_nk (hj 18 (by decide)), fl_nk (hj 1 (by decide)), fl_nk (hj 2 (by decide)), fl_nk (hj 4 (by decide)), fl_nk (hj 5 (by decide)), fl_nk (hj 7 (by decide)), fl_nk (hj 10 (by decide)), fl_nk (hj 11 (by decide)), fl_nk (hj 12 (by decide)), fl_nk (hj 17 (by decide)), tb_nk (hj 8 (by decide))]; try rfl)) hw
theorem k_X9_startAnew {p : Program} {l : Launch} {e : Env} {R : Room} {s : State} {m : MethodId} {args : Array Value} {below : List Frame} {meth : Method} {c : Code} {H : Heap} {locs : List Loc} {Q : State → Prop} {cc : ByteArray} {pc : Nat} {ls : Array Slot} {rest : List Value} {nL : Nat} {own : String} {D : va_G} {σ : St} {cI cZ : ClassId} {ad : Nat → Nat} {index : Nat} {c1 r1 : Int} (hD : ∀ τ, va_D (AD ad 45) (wsX cI ad τ))  (J : Jx p m c cc nL s args own D [(cI, .int), (cZ, .boolean)] (AD ad 45) (wsX cI ad)) (hw : jW D (AD ad 45) s.heap (wsX cI ad σ) H locs) (hsz : ls.size = nL) (hlk : Cond.methodLink own index yX9_startAnew ∈ TBw) (hR : 3 ≤ R.frames ∧ 66 ≤ R.locals) (hroom : (rest.map fun v => v.category).sum ≤ 8) (hdg : decode cc pc = .ok (.invokevirtual index, 3)) (kk : ∀ (τ : St) (H1 : Heap) (locs1 : List Loc), (fun τ => Eqp τ (anS σ c1 r1)) τ → jW D (AD ad 45) s.heap (wsX cI ad τ) H1 locs1 → W p l e R s m args below meth c H1 locs1 0 0 Q (F0 m (pc + 3) ls rest)) : W p l e R s m args below meth c H locs 0 0 Q (F0 m pc ls (.int (I r1) :: .int (I c1) :: .ref (ad 0) :: rest)) := 
  j_callVv J hw (c_X9_startAnew  hD ) hlk in_X9_startAnew se_X9_startAnew ini_X9 co_X9_startAnew (n := 2) (by decide +kernel) ⟨rfl, rfl, hR.1, hR.2⟩ (j := 0) (ci := 9) rfl rfl rfl rfl hroom hsz ⟨Nat.zero_le _, Nat.zero_le _⟩ rfl hdg kk
def rm_X9_board : Room := { frames := 3, cells := 0, slots := 0, locals := 66 }
set_option maxHeartbeats 4000000 in
set_option maxRecDepth 100000 in
theorem c_X9_board {l : Launch} {D : va_G} {cI cZ : ClassId} {ad : Nat → Nat} {σ : St} {co ro : Int} (hD : ∀ τ, va_D (AD ad 45) (wsX cI ad τ)) (hB : Bd σ) (r_co : rg co) (r_ro : rg ro) : JMi l yX9_board cX9_board 3 (some .int) rm_X9_board D [(cI, .int), (cZ, .boolean)] (AD ad 45) (wsX cI ad) [.ref (ad 0), .int (I co), .int (I ro)] σ (fun r τ => r = (boardS σ co ro).1 ∧ Eqp τ (boardS σ co ro).2) := by
  refine JMi.of RX9 (by decide +kernel) rfl (Nat.le_of_ble_eq_true rfl) hD ?_
  intro p e s m args below meth c Q J fin H ls hw hl
  generalize ([] : List Loc) = locs at hw ⊢
  have hl : lv_has ls 3 [(0, .ref (ad 0)), (1, .int (I co)), (2, .int (I ro))] := hl
  have hd : Dim _ := hB.dim
  have hd1 := hd.1; have hd2 := hd.2.1; have hd3 := hd.2.2.1; have hd4 := hd.2.2.2; have hm := hd.mul
  have u_co := r_co; unfold rg at u_co
  have u_ro := r_ro; unfold rg at u_ro
  refine j_iload_n J dX9_board_0 rfl (lv_at hl 1 rfl) ?_
  refine j_iconst J (1) dX9_board_1 ?_
  refine j_bipush J (12) dX9_board_2 (by decide) ?_
  refine k_X9_within (v := co) (lo := 1) (hi := 12) (σ := σ) hD (show rg co from by unfold rg; omega) (show rg 1 from by unfold rg; omega) (show rg 12 from by unfold rg; omega) J hw hl.1 lk_X9_78 ⟨Nat.le_of_ble_eq_true rfl, Nat.le_of_ble_eq_true rfl⟩ (Nat.le_of_ble_eq_true rfl) dX9_board_4 (fun H locs hw => ?_)
  refine j_ifeqB J 20 dX9_board_7 (by decide) (fun (h_1 : ¬ (1 ≤ co ∧ co ≤ 12)) => ?_) (fun (h_1 : 1 ≤ co ∧ co ≤ 12) => ?_)
  · refine j_iconst J (-1) dX9_board_20 ?_
    exact fin _ _ _ _ _ _ dX9_board_21 rfl (by first | (unfold boardS; (repeat (first | rw [if_pos (by omega)] | rw [if_neg (by omega)])); exact ⟨rfl, Eqp.rf⟩) | (exfalso; omega)) hw
  · refine j_iload_n J dX9_board_10 rfl (lv_at hl 2 rfl) ?_
    refine j_iconst J (1) dX9_board_11 ?_
    refine j_bipush J (10) dX9_board_12 (by decide) ?_
    refine k_X9_within (v := ro) (lo := 1) (hi := 10) (σ := σ) hD (show rg ro from by unfold rg; omega) (show rg 1 from by unfold rg; omega) (show rg 10 from by unfold rg; omega) J hw hl.1 lk_X9_78 ⟨Nat.le_of_ble_eq_true rfl, Nat.le_of_ble_eq_true rfl⟩ (Nat.le_of_ble_eq_true rfl) dX9_board_14 (fun H locs hw => ?_)
    refine j_ifneB J 22 dX9_board_17 (by decide) (fun (h_2 : 1 ≤ ro ∧ ro ≤ 10) => ?_) (fun (h_2 : ¬ (1 ≤ ro ∧ ro ≤ 10)) => ?_)
    · refine j_aload_n J dX9_board_22 rfl (lv_at hl 0 rfl) ?_
      refine j_iload_n J dX9_board_23 rfl (lv_at hl 1 rfl) ?_
      refine j_iload_n J dX9_board_24 rfl (lv_at hl 2 rfl) ?_
      refine k_X9_startAnew (c1 := co) (r1 := ro) (σ := σ) hD  J hw hl.1 lk_X9_74 ⟨Nat.le_of_ble_eq_true rfl, Nat.le_of_ble_eq_true rfl⟩ (Nat.le_of_ble_eq_true rfl) dX9_board_25 (fun τ1 H locs hp1 hw => ?_)
      refine j_aload_n J dX9_board_28 rfl (lv_at hl 0 rfl) ?_
      refine xg_9_1 J hw lk_X9_21 dX9_board_29 ?_
      refine k_X1_size (σ := τ1) hD  J hw hl.1 lk_X9_82 ⟨Nat.le_of_ble_eq_true rfl, Nat.le_of_ble_eq_true rfl⟩ (Nat.le_of_ble_eq_true rfl) dX9_board_32 (fun H locs hw => ?_)
      exact fin _ _ _ _ _ _ dX9_board_35 rfl (by unfold boardS; rw [if_pos (by omega)]; exact ⟨by show τ1 18 0 * τ1 18 1 = co * ro; rw [qs hp1 0 (by decide), qs hp1 1 (by decide)]; rfl, hp1⟩) hw
    · refine j_iconst J (-1) dX9_board_20 ?_
      exact fin _ _ _ _ _ _ dX9_board_21 rfl (by first | (unfold boardS; (repeat (first | rw [if_pos (by omega)] | rw [if_neg (by omega)])); exact ⟨rfl, Eqp.rf⟩) | (exfalso; omega)) hw
theorem k_X9_board {p : Program} {l : Launch} {e : Env} {R : Room} {s : State} {m : MethodId} {args : Array Value} {below : List Frame} {meth : Method} {c : Code} {H : Heap} {locs : List Loc} {Q : State → Prop} {cc : ByteArray} {pc : Nat} {ls : Array Slot} {rest : List Value} {nL : Nat} {own : String} {D : va_G} {σ : St} {cI cZ : ClassId} {ad : Nat → Nat} {index : Nat} {co ro : Int} (hD : ∀ τ, va_D (AD ad 45) (wsX cI ad τ)) (hB : Bd σ) (r_co : rg co) (r_ro : rg ro) (J : Jx p m c cc nL s args own D [(cI, .int), (cZ, .boolean)] (AD ad 45) (wsX cI ad)) (hw : jW D (AD ad 45) s.heap (wsX cI ad σ) H locs) (hsz : ls.size = nL) (hlk : Cond.methodLink own index yX9_board ∈ TBw) (hR : 4 ≤ R.frames ∧ 88 ≤ R.locals) (hroom : (rest.map fun v => v.category).sum ≤ 8) (hdg : decode cc pc = .ok (.invokevirtual index, 3)) (kk : ∀ (r : Int) (τ : St) (H1 : Heap) (locs1 : List Loc), (fun r τ => r = (boardS σ co ro).1 ∧ Eqp τ (boardS σ co ro).2) r τ → jW D (AD ad 45) s.heap (wsX cI ad τ) H1 locs1 → W p l e R s m args below meth c H1 locs1 0 0 Q (F0 m (pc + 3) ls (.int (I r) :: rest))) : W p l e R s m args below meth c H locs 0 0 Q (F0 m pc ls (.int (I ro) :: .int (I co) :: .ref (ad 0) :: rest)) := 
  j_callVi J hw (c_X9_board  hD hB r_co r_ro) hlk in_X9_board se_X9_board ini_X9 co_X9_board (n := 2) (by decide +kernel) ⟨rfl, rfl, hR.1, hR.2⟩ (j := 0) (ci := 9) rfl rfl rfl rfl hroom hsz ⟨Nat.zero_le _, Nat.zero_le _⟩ rfl hdg kk
def rm_X9_lay : Room := { frames := 2, cells := 0, slots := 0, locals := 43 }
set_option maxHeartbeats 4000000 in
set_option maxRecDepth 100000 in
theorem c_X9_lay {l : Launch} {D : va_G} {cI cZ : ClassId} {ad : Nat → Nat} {σ : St} {cl wh vl : Int} (hD : ∀ τ, va_D (AD ad 45) (wsX cI ad τ)) (hB : Bd σ) (r_cl : rg cl) (r_wh : rg wh) (r_vl : rg vl) : JMi l yX9_lay cX9_lay 4 (some .int) rm_X9_lay D [(cI, .int), (cZ, .boolean)] (AD ad 45) (wsX cI ad) [.ref (ad 0), .int (I cl), .int (I wh), .int (I vl)] σ (fun r τ => r = (layS σ cl wh vl).1 ∧ Eqp τ (layS σ cl wh vl).2) := by
  refine JMi.of RX9 (by decide +kernel) rfl (Nat.le_of_ble_eq_true rfl) hD ?_
  intro p e s m args below meth c Q J fin H ls hw hl
  generalize ([] : List Loc) = locs at hw ⊢
  have hl : lv_has ls 4 [(0, .ref (ad 0)), (1, .int (I cl)), (2, .int (I wh)), (3, .int (I vl))] := hl
  have hd : Dim _ := hB.dim
  have hd1 := hd.1; have hd2 := hd.2.1; have hd3 := hd.2.2.1; have hd4 := hd.2.2.2; have hm := hd.mul
  have u_cl := r_cl; unfold rg at u_cl
  have u_wh := r_wh; unfold rg at u_wh
  have u_vl := r_vl; unfold rg at u_vl
  refine j_aload_n J dX9_lay_0 rfl (lv_at hl 0 rfl) ?_
  refine xg_9_1 J hw lk_X9_21 dX9_lay_1 ?_
  refine j_iload_n J dX9_lay_4 rfl (lv_at hl 1 rfl) ?_
  refine k_X1_has (cell := cl) (σ := σ) hD (show Dim σ from hd) (show rg cl from by unfold rg; omega) J hw hl.1 lk_X9_86 ⟨Nat.le_of_ble_eq_true rfl, Nat.le_of_ble_eq_true rfl⟩ (Nat.le_of_ble_eq_true rfl) dX9_lay_5 (fun H locs hw => ?_)
  refine j_ifeqB J 20 dX9_lay_8 (by decide) (fun (h_1 : ¬ (0 ≤ cl ∧ cl ≤ σ 18 0 * σ 18 1 - 1)) => ?_) (fun (h_1 : 0 ≤ cl ∧ cl ≤ σ 18 0 * σ 18 1 - 1) => ?_)
  · refine j_iconst J (-1) dX9_lay_20 ?_
    exact fin _ _ _ _ _ _ dX9_lay_21 rfl (by first | (unfold layS; (repeat (first | rw [if_pos (by omega)] | rw [if_neg (by omega)])); exact ⟨rfl, Eqp.rf⟩) | (exfalso; omega)) hw
  · refine j_iload_n J dX9_lay_11 rfl (lv_at hl 2 rfl) ?_
    refine j_iconst J (0) dX9_lay_12 ?_
    refine j_iconst J (1) dX9_lay_13 ?_
    refine k_X9_within (v := wh) (lo := 0) (hi := 1) (σ := σ) hD (show rg wh from by unfold rg; omega) (show rg 0 from by unfold rg; omega) (show rg 1 from by unfold rg; omega) J hw hl.1 lk_X9_78 ⟨Nat.le_of_ble_eq_true rfl, Nat.le_of_ble_eq_true rfl⟩ (Nat.le_of_ble_eq_true rfl) dX9_lay_14 (fun H locs hw => ?_)
    refine j_ifneB J 22 dX9_lay_17 (by decide) (fun (h_2 : 0 ≤ wh ∧ wh ≤ 1) => ?_) (fun (h_2 : ¬ (0 ≤ wh ∧ wh ≤ 1)) => ?_)
    · refine j_iload_n J dX9_lay_22 rfl (lv_at hl 3 rfl) ?_
      refine j_iconst J (0) dX9_lay_23 ?_
      refine j_iload_n J dX9_lay_24 rfl (lv_at hl 2 rfl) ?_
      refine j_if_ne J 34 (show rg wh by unfold rg; omega) dX9_lay_25 (by decide) (fun (h_3 : ¬ wh = 0) => ?_) (fun (h_3 : wh = 0) => ?_)
      · refine j_sipush J (300) dX9_lay_34 (by decide) ?_
        refine k_X9_within (v := vl) (lo := 0) (hi := 300) (σ := σ) hD (show rg vl from by unfold rg; omega) (show rg 0 from by unfold rg; omega) (show rg 300 from by unfold rg; omega) J hw hl.1 lk_X9_78 ⟨Nat.le_of_ble_eq_true rfl, Nat.le_of_ble_eq_true rfl⟩ (Nat.le_of_ble_eq_true rfl) dX9_lay_37 (fun H locs hw => ?_)
        refine j_ifneB J 45 dX9_lay_40 (by decide) (fun (h_4 : 0 ≤ vl ∧ vl ≤ 300) => ?_) (fun (h_4 : ¬ (0 ≤ vl ∧ vl ≤ 300)) => ?_)
        · refine j_iload_n J dX9_lay_45 rfl (lv_at hl 2 rfl) ?_
          refine j_if_ne J 64 (show rg wh by unfold rg; omega) dX9_lay_46 (by decide) (fun (h_5 : ¬ wh = 0) => ?_) (fun (h_5 : wh = 0) => ?_)
          · refine j_aload_n J dX9_lay_64 rfl (lv_at hl 0 rfl) ?_
            refine xg_9_1 J hw lk_X9_21 dX9_lay_65 ?_
            refine xg_1_1 J hw lk_X9_97 dX9_lay_68 ?_
            refine j_iload_n J dX9_lay_71 rfl (lv_at hl 1 rfl) ?_
            refine j_iload_n J dX9_lay_72 rfl (lv_at hl 3 rfl) ?_
            refine k_X2_put (k := 2) (i := cl) (v := vl) (σ := σ) hD (by decide) (show 0 ≤ cl ∧ cl < ((120 : Nat) : Int) from by omega) J hw hl.1 lk_X9_93 ⟨Nat.le_of_ble_eq_true rfl, Nat.le_of_ble_eq_true rfl⟩ (Nat.le_of_ble_eq_true rfl) dX9_lay_73 (fun H locs hw => ?_)
            exact fin _ _ _ _ _ _ dX9_lay_76 rfl (by first | (unfold layS; (repeat (first | rw [if_pos (by omega)] | rw [if_neg (by omega)])); exact ⟨rfl, Eqp.rf⟩) | (exfalso; omega)) hw
          · refine j_aload_n J dX9_lay_49 rfl (lv_at hl 0 rfl) ?_
            refine xg_9_1 J hw lk_X9_21 dX9_lay_50 ?_
            refine xg_1_0 J hw lk_X9_90 dX9_lay_53 ?_
            refine j_iload_n J dX9_lay_56 rfl (lv_at hl 1 rfl) ?_
            refine j_iload_n J dX9_lay_57 rfl (lv_at hl 3 rfl) ?_
            refine k_X2_put (k := 1) (i := cl) (v := vl) (σ := σ) hD (by decide) (show 0 ≤ cl ∧ cl < ((120 : Nat) : Int) from by omega) J hw hl.1 lk_X9_93 ⟨Nat.le_of_ble_eq_true rfl, Nat.le_of_ble_eq_true rfl⟩ (Nat.le_of_ble_eq_true rfl) dX9_lay_58 (fun H locs hw => ?_)
            refine j_goto J 76 dX9_lay_61 (by decide) ?_
            exact fin _ _ _ _ _ _ dX9_lay_76 rfl (by first | (unfold layS; (repeat (first | rw [if_pos (by omega)] | rw [if_neg (by omega)])); exact ⟨rfl, Eqp.rf⟩) | (exfalso; omega)) hw
        · refine j_iconst J (-1) dX9_lay_43 ?_
          exact fin _ _ _ _ _ _ dX9_lay_44 rfl (by first | (unfold layS; (repeat (first | rw [if_pos (by omega)] | rw [if_neg (by omega)])); exact ⟨rfl, Eqp.rf⟩) | (exfalso; omega)) hw
      · refine j_sipush J (400) dX9_lay_28 (by decide) ?_
        refine j_goto J 37 dX9_lay_31 (by decide) ?_
        refine k_X9_within (v := vl) (lo := 0) (hi := 400) (σ := σ) hD (show rg vl from by unfold rg; omega) (show rg 0 from by unfold rg; omega) (show rg 400 from by unfold rg; omega) J hw hl.1 lk_X9_78 ⟨Nat.le_of_ble_eq_true rfl, Nat.le_of_ble_eq_true rfl⟩ (Nat.le_of_ble_eq_true rfl) dX9_lay_37 (fun H locs hw => ?_)
        refine j_ifneB J 45 dX9_lay_40 (by decide) (fun (h_6 : 0 ≤ vl ∧ vl ≤ 400) => ?_) (fun (h_6 : ¬ (0 ≤ vl ∧ vl ≤ 400)) => ?_)
        · refine j_iload_n J dX9_lay_45 rfl (lv_at hl 2 rfl) ?_
          refine j_if_ne J 64 (show rg wh by unfold rg; omega) dX9_lay_46 (by decide) (fun (h_7 : ¬ wh = 0) => ?_) (fun (h_7 : wh = 0) => ?_)
          · refine j_aload_n J dX9_lay_64 rfl (lv_at hl 0 rfl) ?_
            refine xg_9_1 J hw lk_X9_21 dX9_lay_65 ?_
            refine xg_1_1 J hw lk_X9_97 dX9_lay_68 ?_
            refine j_iload_n J dX9_lay_71 rfl (lv_at hl 1 rfl) ?_
            refine j_iload_n J dX9_lay_72 rfl (lv_at hl 3 rfl) ?_
            refine k_X2_put (k := 2) (i := cl) (v := vl) (σ := σ) hD (by decide) (show 0 ≤ cl ∧ cl < ((120 : Nat) : Int) from by omega) J hw hl.1 lk_X9_93 ⟨Nat.le_of_ble_eq_true rfl, Nat.le_of_ble_eq_true rfl⟩ (Nat.le_of_ble_eq_true rfl) dX9_lay_73 (fun H locs hw => ?_)
            exact fin _ _ _ _ _ _ dX9_lay_76 rfl (by first | (unfold layS; (repeat (first | rw [if_pos (by omega)] | rw [if_neg (by omega)])); exact ⟨rfl, Eqp.rf⟩) | (exfalso; omega)) hw
          · refine j_aload_n J dX9_lay_49 rfl (lv_at hl 0 rfl) ?_
            refine xg_9_1 J hw lk_X9_21 dX9_lay_50 ?_
            refine xg_1_0 J hw lk_X9_90 dX9_lay_53 ?_
            refine j_iload_n J dX9_lay_56 rfl (lv_at hl 1 rfl) ?_
            refine j_iload_n J dX9_lay_57 rfl (lv_at hl 3 rfl) ?_
            refine k_X2_put (k := 1) (i := cl) (v := vl) (σ := σ) hD (by decide) (show 0 ≤ cl ∧ cl < ((120 : Nat) : Int) from by omega) J hw hl.1 lk_X9_93 ⟨Nat.le_of_ble_eq_true rfl, Nat.le_of_ble_eq_true rfl⟩ (Nat.le_of_ble_eq_true rfl) dX9_lay_58 (fun H locs hw => ?_)
            refine j_goto J 76 dX9_lay_61 (by decide) ?_
            exact fin _ _ _ _ _ _ dX9_lay_76 rfl (by first | (unfold layS; (repeat (first | rw [if_pos (by omega)] | rw [if_neg (by omega)])); exact ⟨rfl, Eqp.rf⟩) | (exfalso; omega)) hw
        · refine j_iconst J (-1) dX9_lay_43 ?_
          exact fin _ _ _ _ _ _ dX9_lay_44 rfl (by first | (unfold layS; (repeat (first | rw [if_pos (by omega)] | rw [if_neg (by omega)])); exact ⟨rfl, Eqp.rf⟩) | (exfalso; omega)) hw
    · refine j_iconst J (-1) dX9_lay_20 ?_
      exact fin _ _ _ _ _ _ dX9_lay_21 rfl (by first | (unfold layS; (repeat (first | rw [if_pos (by omega)] | rw [if_neg (by omega)])); exact ⟨rfl, Eqp.rf⟩) | (exfalso; omega)) hw
theorem k_X9_lay {p : Program} {l : Launch} {e : Env} {R : Room} {s : State} {m : MethodId} {args : Array Value} {below : List Frame} {meth : Method} {c : Code} {H : Heap} {locs : List Loc} {Q : State → Prop} {cc : ByteArray} {pc : Nat} {ls : Array Slot} {rest : List Value} {nL : Nat} {own : String} {D : va_G} {σ : St} {cI cZ : ClassId} {ad : Nat → Nat} {index : Nat} {cl wh vl : Int} (hD : ∀ τ, va_D (AD ad 45) (wsX cI ad τ)) (hB : Bd σ) (r_cl : rg cl) (r_wh : rg wh) (r_vl : rg vl) (J : Jx p m c cc nL s args own D [(cI, .int), (cZ, .boolean)] (AD ad 45) (wsX cI ad)) (hw : jW D (AD ad 45) s.heap (wsX cI ad σ) H locs) (hsz : ls.size = nL) (hlk : Cond.methodLink own index yX9_lay ∈ TBw) (hR : 3 ≤ R.frames ∧ 66 ≤ R.locals) (hroom : (rest.map fun v => v.category).sum ≤ 8) (hdg : decode cc pc = .ok (.invokevirtual index, 3)) (kk : ∀ (r : Int) (τ : St) (H1 : Heap) (locs1 : List Loc), (fun r τ => r = (layS σ cl wh vl).1 ∧ Eqp τ (layS σ cl wh vl).2) r τ → jW D (AD ad 45) s.heap (wsX cI ad τ) H1 locs1 → W p l e R s m args below meth c H1 locs1 0 0 Q (F0 m (pc + 3) ls (.int (I r) :: rest))) : W p l e R s m args below meth c H locs 0 0 Q (F0 m pc ls (.int (I vl) :: .int (I wh) :: .int (I cl) :: .ref (ad 0) :: rest)) := 
  j_callVi J hw (c_X9_lay  hD hB r_cl r_wh r_vl) hlk in_X9_lay se_X9_lay ini_X9 co_X9_lay (n := 3) (by decide +kernel) ⟨rfl, rfl, hR.1, hR.2⟩ (j := 0) (ci := 9) rfl rfl rfl rfl hroom hsz ⟨Nat.zero_le _, Nat.zero_le _⟩ rfl hdg kk
def rm_X9_rule : Room := { frames := 1, cells := 0, slots := 0, locals := 23 }
set_option maxHeartbeats 4000000 in
set_option maxRecDepth 100000 in
theorem c_X9_rule {l : Launch} {D : va_G} {cI cZ : ClassId} {ad : Nat → Nat} {σ : St} {wh vl : Int} (hD : ∀ τ, va_D (AD ad 45) (wsX cI ad τ)) (hB : Bd σ) (r_wh : rg wh) (r_vl : rg vl) : JMi l yX9_rule cX9_rule 3 (some .int) rm_X9_rule D [(cI, .int), (cZ, .boolean)] (AD ad 45) (wsX cI ad) [.ref (ad 0), .int (I wh), .int (I vl)] σ (fun r τ => r = (ruleS σ wh vl).1 ∧ Eqp τ (ruleS σ wh vl).2) := by
  refine JMi.of RX9 (by decide +kernel) rfl (Nat.le_of_ble_eq_true rfl) hD ?_
  intro p e s m args below meth c Q J fin H ls hw hl
  generalize ([] : List Loc) = locs at hw ⊢
  have hl : lv_has ls 3 [(0, .ref (ad 0)), (1, .int (I wh)), (2, .int (I vl))] := hl
  have hd : Dim _ := hB.dim
  have hd1 := hd.1; have hd2 := hd.2.1; have hd3 := hd.2.2.1; have hd4 := hd.2.2.2; have hm := hd.mul
  have u_wh := r_wh; unfold rg at u_wh
  have u_vl := r_vl; unfold rg at u_vl
  refine j_iload_n J dX9_rule_0 rfl (lv_at hl 1 rfl) ?_
  refine j_iconst J (0) dX9_rule_1 ?_
  refine j_iconst J (4) dX9_rule_2 ?_
  refine k_X9_within (v := wh) (lo := 0) (hi := 4) (σ := σ) hD (show rg wh from by unfold rg; omega) (show rg 0 from by unfold rg; omega) (show rg 4 from by unfold rg; omega) J hw hl.1 lk_X9_78 ⟨Nat.le_of_ble_eq_true rfl, Nat.le_of_ble_eq_true rfl⟩ (Nat.le_of_ble_eq_true rfl) dX9_rule_3 (fun H locs hw => ?_)
  refine j_ifeqB J 24 dX9_rule_6 (by decide) (fun (h_1 : ¬ (0 ≤ wh ∧ wh ≤ 4)) => ?_) (fun (h_1 : 0 ≤ wh ∧ wh ≤ 4) => ?_)
  · refine j_bipush J (-9) dX9_rule_24 (by decide) ?_
    exact fin _ _ _ _ _ _ dX9_rule_26 rfl (by first | (unfold ruleS; (repeat (first | rw [if_pos (by omega)] | rw [if_neg (by omega)])); exact ⟨rfl, Eqp.rf⟩) | (exfalso; omega)) hw
  · refine j_iload_n J dX9_rule_9 rfl (lv_at hl 2 rfl) ?_
    refine j_iload_n J dX9_rule_10 rfl (lv_at hl 1 rfl) ?_
    refine k_X9_leastOfRule (w := wh) (σ := σ) hD (show rg wh from by unfold rg; omega) J hw hl.1 lk_X9_100 ⟨Nat.le_of_ble_eq_true rfl, Nat.le_of_ble_eq_true rfl⟩ (Nat.le_of_ble_eq_true rfl) dX9_rule_11 (fun H locs hw => ?_)
    refine j_iload_n J dX9_rule_14 rfl (lv_at hl 1 rfl) ?_
    refine k_X9_mostOfRule (w := wh) (σ := σ) hD (show rg wh from by unfold rg; omega) J hw hl.1 lk_X9_104 ⟨Nat.le_of_ble_eq_true rfl, Nat.le_of_ble_eq_true rfl⟩ (Nat.le_of_ble_eq_true rfl) dX9_rule_15 (fun H locs hw => ?_)
    refine k_X9_within (v := vl) (lo := if wh = 4 then -1 else 0) (hi := if wh = 0 then 50 else if wh = 4 then 1 else 400) (σ := σ) hD (show rg vl from by unfold rg; omega) (show rg (if wh = 4 then -1 else 0) from by unfold rg; omega) (show rg (if wh = 0 then 50 else if wh = 4 then 1 else 400) from by unfold rg; omega) J hw hl.1 lk_X9_78 ⟨Nat.le_of_ble_eq_true rfl, Nat.le_of_ble_eq_true rfl⟩ (Nat.le_of_ble_eq_true rfl) dX9_rule_18 (fun H locs hw => ?_)
    refine j_ifneB J 27 dX9_rule_21 (by decide) (fun (h_2 : (if wh = 4 then -1 else 0) ≤ vl ∧ vl ≤ (if wh = 0 then 50 else if wh = 4 then 1 else 400)) => ?_) (fun (h_2 : ¬ ((if wh = 4 then -1 else 0) ≤ vl ∧ vl ≤ (if wh = 0 then 50 else if wh = 4 then 1 else 400))) => ?_)
    · refine j_aload_n J dX9_rule_27 rfl (lv_at hl 0 rfl) ?_
      refine xg_9_0 J hw lk_X9_14 dX9_rule_28 ?_
      refine j_iload_n J dX9_rule_31 rfl (lv_at hl 1 rfl) ?_
      refine j_iload_n J dX9_rule_32 rfl (lv_at hl 2 rfl) ?_
      refine k_X2_put (k := 0) (i := wh) (v := vl) (σ := σ) hD (by decide) (show 0 ≤ wh ∧ wh < ((5 : Nat) : Int) from by omega) J hw hl.1 lk_X9_93 ⟨Nat.le_of_ble_eq_true rfl, Nat.le_of_ble_eq_true rfl⟩ (Nat.le_of_ble_eq_true rfl) dX9_rule_33 (fun H locs hw => ?_)
      exact fin _ _ _ _ _ _ dX9_rule_36 rfl (by first | (unfold ruleS; (repeat (first | rw [if_pos (by omega)] | rw [if_neg (by omega)])); exact ⟨rfl, Eqp.rf⟩) | (exfalso; omega)) hw
    · refine j_bipush J (-9) dX9_rule_24 (by decide) ?_
      exact fin _ _ _ _ _ _ dX9_rule_26 rfl (by first | (unfold ruleS; (repeat (first | rw [if_pos (by omega)] | rw [if_neg (by omega)])); exact ⟨rfl, Eqp.rf⟩) | (exfalso; omega)) hw
theorem k_X9_rule {p : Program} {l : Launch} {e : Env} {R : Room} {s : State} {m : MethodId} {args : Array Value} {below : List Frame} {meth : Method} {c : Code} {H : Heap} {locs : List Loc} {Q : State → Prop} {cc : ByteArray} {pc : Nat} {ls : Array Slot} {rest : List Value} {nL : Nat} {own : String} {D : va_G} {σ : St} {cI cZ : ClassId} {ad : Nat → Nat} {index : Nat} {wh vl : Int} (hD : ∀ τ, va_D (AD ad 45) (wsX cI ad τ)) (hB : Bd σ) (r_wh : rg wh) (r_vl : rg vl) (J : Jx p m c cc nL s args own D [(cI, .int), (cZ, .boolean)] (AD ad 45) (wsX cI ad)) (hw : jW D (AD ad 45) s.heap (wsX cI ad σ) H locs) (hsz : ls.size = nL) (hlk : Cond.methodLink own index yX9_rule ∈ TBw) (hR : 2 ≤ R.frames ∧ 45 ≤ R.locals) (hroom : (rest.map fun v => v.category).sum ≤ 8) (hdg : decode cc pc = .ok (.invokevirtual index, 3)) (kk : ∀ (r : Int) (τ : St) (H1 : Heap) (locs1 : List Loc), (fun r τ => r = (ruleS σ wh vl).1 ∧ Eqp τ (ruleS σ wh vl).2) r τ → jW D (AD ad 45) s.heap (wsX cI ad τ) H1 locs1 → W p l e R s m args below meth c H1 locs1 0 0 Q (F0 m (pc + 3) ls (.int (I r) :: rest))) : W p l e R s m args below meth c H locs 0 0 Q (F0 m pc ls (.int (I vl) :: .int (I wh) :: .ref (ad 0) :: rest)) := 
  j_callVi J hw (c_X9_rule  hD hB r_wh r_vl) hlk in_X9_rule se_X9_rule ini_X9 co_X9_rule (n := 2) (by decide +kernel) ⟨rfl, rfl, hR.1, hR.2⟩ (j := 0) (ci := 9) rfl rfl rfl rfl hroom hsz ⟨Nat.zero_le _, Nat.zero_le _⟩ rfl hdg kk
def rm_X9_tide : Room := { frames := 1, cells := 0, slots := 0, locals := 23 }
set_option maxHeartbeats 4000000 in
set_option maxRecDepth 100000 in
theorem c_X9_tide {l : Launch} {D : va_G} {cI cZ : ClassId} {ad : Nat → Nat} {σ : St} {hx vl : Int} (hD : ∀ τ, va_D (AD ad 45) (wsX cI ad τ)) (hB : Bd σ) (r_hx : rg hx) (r_vl : rg vl) : JMi l yX9_tide cX9_tide 3 (some .int) rm_X9_tide D [(cI, .int), (cZ, .boolean)] (AD ad 45) (wsX cI ad) [.ref (ad 0), .int (I hx), .int (I vl)] σ (fun r τ => r = (tideS σ hx vl).1 ∧ Eqp τ (tideS σ hx vl).2) := by
  refine JMi.of RX9 (by decide +kernel) rfl (Nat.le_of_ble_eq_true rfl) hD ?_
  intro p e s m args below meth c Q J fin H ls hw hl
  generalize ([] : List Loc) = locs at hw ⊢
  have hl : lv_has ls 3 [(0, .ref (ad 0)), (1, .int (I hx)), (2, .int (I vl))] := hl
  have hd : Dim _ := hB.dim
  have hd1 := hd.1; have hd2 := hd.2.1; have hd3 := hd.2.2.1; have hd4 := hd.2.2.2; have hm := hd.mul
  have u_hx := r_hx; unfold rg at u_hx
  have u_vl := r_vl; unfold rg at u_vl
  refine j_iload_n J dX9_tide_0 rfl (lv_at hl 1 rfl) ?_
  refine j_iconst J (0) dX9_tide_1 ?_
  refine j_bipush J (11) dX9_tide_2 (by decide) ?_
  refine k_X9_within (v := hx) (lo := 0) (hi := 11) (σ := σ) hD (show rg hx from by unfold rg; omega) (show rg 0 from by unfold rg; omega) (show rg 11 from by unfold rg; omega) J hw hl.1 lk_X9_78 ⟨Nat.le_of_ble_eq_true rfl, Nat.le_of_ble_eq_true rfl⟩ (Nat.le_of_ble_eq_true rfl) dX9_tide_4 (fun H locs hw => ?_)
  refine j_ifeqB J 20 dX9_tide_7 (by decide) (fun (h_1 : ¬ (0 ≤ hx ∧ hx ≤ 11)) => ?_) (fun (h_1 : 0 ≤ hx ∧ hx ≤ 11) => ?_)
  · refine j_iconst J (-1) dX9_tide_20 ?_
    exact fin _ _ _ _ _ _ dX9_tide_21 rfl (by first | (unfold tideS; (repeat (first | rw [if_pos (by omega)] | rw [if_neg (by omega)])); exact ⟨rfl, Eqp.rf⟩) | (exfalso; omega)) hw
  · refine j_iload_n J dX9_tide_10 rfl (lv_at hl 2 rfl) ?_
    refine j_iconst J (0) dX9_tide_11 ?_
    refine j_bipush J (60) dX9_tide_12 (by decide) ?_
    refine k_X9_within (v := vl) (lo := 0) (hi := 60) (σ := σ) hD (show rg vl from by unfold rg; omega) (show rg 0 from by unfold rg; omega) (show rg 60 from by unfold rg; omega) J hw hl.1 lk_X9_78 ⟨Nat.le_of_ble_eq_true rfl, Nat.le_of_ble_eq_true rfl⟩ (Nat.le_of_ble_eq_true rfl) dX9_tide_14 (fun H locs hw => ?_)
    refine j_ifneB J 22 dX9_tide_17 (by decide) (fun (h_2 : 0 ≤ vl ∧ vl ≤ 60) => ?_) (fun (h_2 : ¬ (0 ≤ vl ∧ vl ≤ 60)) => ?_)
    · refine j_aload_n J dX9_tide_22 rfl (lv_at hl 0 rfl) ?_
      refine xg_9_3 J hw lk_X9_35 dX9_tide_23 ?_
      refine xg_8_0 J hw lk_X9_107 dX9_tide_26 ?_
      refine j_iload_n J dX9_tide_29 rfl (lv_at hl 1 rfl) ?_
      refine j_iload_n J dX9_tide_30 rfl (lv_at hl 2 rfl) ?_
      refine k_X2_put (k := 7) (i := hx) (v := vl) (σ := σ) hD (by decide) (show 0 ≤ hx ∧ hx < ((12 : Nat) : Int) from by omega) J hw hl.1 lk_X9_93 ⟨Nat.le_of_ble_eq_true rfl, Nat.le_of_ble_eq_true rfl⟩ (Nat.le_of_ble_eq_true rfl) dX9_tide_31 (fun H locs hw => ?_)
      exact fin _ _ _ _ _ _ dX9_tide_34 rfl (by first | (unfold tideS; (repeat (first | rw [if_pos (by omega)] | rw [if_neg (by omega)])); exact ⟨rfl, Eqp.rf⟩) | (exfalso; omega)) hw
    · refine j_iconst J (-1) dX9_tide_20 ?_
      exact fin _ _ _ _ _ _ dX9_tide_21 rfl (by first | (unfold tideS; (repeat (first | rw [if_pos (by omega)] | rw [if_neg (by omega)])); exact ⟨rfl, Eqp.rf⟩) | (exfalso; omega)) hw
theorem k_X9_tide {p : Program} {l : Launch} {e : Env} {R : Room} {s : State} {m : MethodId} {args : Array Value} {below : List Frame} {meth : Method} {c : Code} {H : Heap} {locs : List Loc} {Q : State → Prop} {cc : ByteArray} {pc : Nat} {ls : Array Slot} {rest : List Value} {nL : Nat} {own : String} {D : va_G} {σ : St} {cI cZ : ClassId} {ad : Nat → Nat} {index : Nat} {hx vl : Int} (hD : ∀ τ, va_D (AD ad 45) (wsX cI ad τ)) (hB : Bd σ) (r_hx : rg hx) (r_vl : rg vl) (J : Jx p m c cc nL s args own D [(cI, .int), (cZ, .boolean)] (AD ad 45) (wsX cI ad)) (hw : jW D (AD ad 45) s.heap (wsX cI ad σ) H locs) (hsz : ls.size = nL) (hlk : Cond.methodLink own index yX9_tide ∈ TBw) (hR : 2 ≤ R.frames ∧ 45 ≤ R.locals) (hroom : (rest.map fun v => v.category).sum ≤ 8) (hdg : decode cc pc = .ok (.invokevirtual index, 3)) (kk : ∀ (r : Int) (τ : St) (H1 : Heap) (locs1 : List Loc), (fun r τ => r = (tideS σ hx vl).1 ∧ Eqp τ (tideS σ hx vl).2) r τ → jW D (AD ad 45) s.heap (wsX cI ad τ) H1 locs1 → W p l e R s m args below meth c H1 locs1 0 0 Q (F0 m (pc + 3) ls (.int (I r) :: rest))) : W p l e R s m args below meth c H locs 0 0 Q (F0 m pc ls (.int (I vl) :: .int (I hx) :: .ref (ad 0) :: rest)) := 
  j_callVi J hw (c_X9_tide  hD hB r_hx r_vl) hlk in_X9_tide se_X9_tide ini_X9 co_X9_tide (n := 2) (by decide +kernel) ⟨rfl, rfl, hR.1, hR.2⟩ (j := 0) (ci := 9) rfl rfl rfl rfl hroom hsz ⟨Nat.zero_le _, Nat.zero_le _⟩ rfl hdg kk
def rm_X9_hold : Room := { frames := 2, cells := 0, slots := 0, locals := 47 }
set_option maxHeartbeats 4000000 in
set_option maxRecDepth 100000 in
theorem c_X9_hold {l : Launch} {D : va_G} {cI cZ : ClassId} {ad : Nat → Nat} {σ : St} {t vl : Int} (hD : ∀ τ, va_D (AD ad 45) (wsX cI ad τ)) (hB : Bd σ) (r_t : rg t) (r_vl : rg vl) : JMi l yX9_hold cX9_hold 3 (some .int) rm_X9_hold D [(cI, .int), (cZ, .boolean)] (AD ad 45) (wsX cI ad) [.ref (ad 0), .int (I t), .int (I vl)] σ (fun r τ => r = (holdS σ t vl).1 ∧ Eqp τ (holdS σ t vl).2) := by
  refine JMi.of RX9 (by decide +kernel) rfl (Nat.le_of_ble_eq_true rfl) hD ?_
  intro p e s m args below meth c Q J fin H ls hw hl
  generalize ([] : List Loc) = locs at hw ⊢
  have hl : lv_has ls 3 [(0, .ref (ad 0)), (1, .int (I t)), (2, .int (I vl))] := hl
  have hd : Dim _ := hB.dim
  have hd1 := hd.1; have hd2 := hd.2.1; have hd3 := hd.2.2.1; have hd4 := hd.2.2.2; have hm := hd.mul
  have u_t := r_t; unfold rg at u_t
  have u_vl := r_vl; unfold rg at u_vl
  refine j_iload_n J dX9_hold_0 rfl (lv_at hl 1 rfl) ?_
  refine j_iconst J (1) dX9_hold_1 ?_
  refine j_bipush J (30) dX9_hold_2 (by decide) ?_
  refine k_X9_within (v := t) (lo := 1) (hi := 30) (σ := σ) hD (show rg t from by unfold rg; omega) (show rg 1 from by unfold rg; omega) (show rg 30 from by unfold rg; omega) J hw hl.1 lk_X9_78 ⟨Nat.le_of_ble_eq_true rfl, Nat.le_of_ble_eq_true rfl⟩ (Nat.le_of_ble_eq_true rfl) dX9_hold_4 (fun H locs hw => ?_)
  refine j_ifeqB J 21 dX9_hold_7 (by decide) (fun (h_1 : ¬ (1 ≤ t ∧ t ≤ 30)) => ?_) (fun (h_1 : 1 ≤ t ∧ t ≤ 30) => ?_)
  · refine j_iconst J (-1) dX9_hold_21 ?_
    exact fin _ _ _ _ _ _ dX9_hold_22 rfl (by first | (unfold holdS; (repeat (first | rw [if_pos (by omega)] | rw [if_neg (by omega)])); exact ⟨rfl, Eqp.rf⟩) | (exfalso; omega)) hw
  · refine j_iload_n J dX9_hold_10 rfl (lv_at hl 2 rfl) ?_
    refine j_iconst J (0) dX9_hold_11 ?_
    refine j_sipush J (200) dX9_hold_12 (by decide) ?_
    refine k_X9_within (v := vl) (lo := 0) (hi := 200) (σ := σ) hD (show rg vl from by unfold rg; omega) (show rg 0 from by unfold rg; omega) (show rg 200 from by unfold rg; omega) J hw hl.1 lk_X9_78 ⟨Nat.le_of_ble_eq_true rfl, Nat.le_of_ble_eq_true rfl⟩ (Nat.le_of_ble_eq_true rfl) dX9_hold_15 (fun H locs hw => ?_)
    refine j_ifneB J 23 dX9_hold_18 (by decide) (fun (h_2 : 0 ≤ vl ∧ vl ≤ 200) => ?_) (fun (h_2 : ¬ (0 ≤ vl ∧ vl ≤ 200)) => ?_)
    · refine j_aload_n J dX9_hold_23 rfl (lv_at hl 0 rfl) ?_
      refine xg_9_4 J hw lk_X9_42 dX9_hold_24 ?_
      refine j_iload_n J dX9_hold_27 rfl (lv_at hl 1 rfl) ?_
      refine j_iload_n J dX9_hold_28 rfl (lv_at hl 2 rfl) ?_
      refine k_X6_setTable (t := t) (v := vl) (σ := σ) hD (show Bd σ from hB) (show 1 ≤ t ∧ t ≤ 30 from by omega) (show 0 ≤ vl ∧ vl ≤ 200 from by omega) J hw hl.1 lk_X9_110 ⟨Nat.le_of_ble_eq_true rfl, Nat.le_of_ble_eq_true rfl⟩ (Nat.le_of_ble_eq_true rfl) dX9_hold_29 (fun H locs hw => ?_)
      exact fin _ _ _ _ _ _ dX9_hold_32 rfl (by first | (unfold holdS; (repeat (first | rw [if_pos (by omega)] | rw [if_neg (by omega)])); exact ⟨rfl, Eqp.rf⟩) | (exfalso; omega)) hw
    · refine j_iconst J (-1) dX9_hold_21 ?_
      exact fin _ _ _ _ _ _ dX9_hold_22 rfl (by first | (unfold holdS; (repeat (first | rw [if_pos (by omega)] | rw [if_neg (by omega)])); exact ⟨rfl, Eqp.rf⟩) | (exfalso; omega)) hw
theorem k_X9_hold {p : Program} {l : Launch} {e : Env} {R : Room} {s : State} {m : MethodId} {args : Array Value} {below : List Frame} {meth : Method} {c : Code} {H : Heap} {locs : List Loc} {Q : State → Prop} {cc : ByteArray} {pc : Nat} {ls : Array Slot} {rest : List Value} {nL : Nat} {own : String} {D : va_G} {σ : St} {cI cZ : ClassId} {ad : Nat → Nat} {index : Nat} {t vl : Int} (hD : ∀ τ, va_D (AD ad 45) (wsX cI ad τ)) (hB : Bd σ) (r_t : rg t) (r_vl : rg vl) (J : Jx p m c cc nL s args own D [(cI, .int), (cZ, .boolean)] (AD ad 45) (wsX cI ad)) (hw : jW D (AD ad 45) s.heap (wsX cI ad σ) H locs) (hsz : ls.size = nL) (hlk : Cond.methodLink own index yX9_hold ∈ TBw) (hR : 3 ≤ R.frames ∧ 69 ≤ R.locals) (hroom : (rest.map fun v => v.category).sum ≤ 8) (hdg : decode cc pc = .ok (.invokevirtual index, 3)) (kk : ∀ (r : Int) (τ : St) (H1 : Heap) (locs1 : List Loc), (fun r τ => r = (holdS σ t vl).1 ∧ Eqp τ (holdS σ t vl).2) r τ → jW D (AD ad 45) s.heap (wsX cI ad τ) H1 locs1 → W p l e R s m args below meth c H1 locs1 0 0 Q (F0 m (pc + 3) ls (.int (I r) :: rest))) : W p l e R s m args below meth c H locs 0 0 Q (F0 m pc ls (.int (I vl) :: .int (I t) :: .ref (ad 0) :: rest)) := 
  j_callVi J hw (c_X9_hold  hD hB r_t r_vl) hlk in_X9_hold se_X9_hold ini_X9 co_X9_hold (n := 2) (by decide +kernel) ⟨rfl, rfl, hR.1, hR.2⟩ (j := 0) (ci := 9) rfl rfl rfl rfl hroom hsz ⟨Nat.zero_le _, Nat.zero_le _⟩ rfl hdg kk
def rm_X9_spot : Room := { frames := 2, cells := 0, slots := 0, locals := 43 }
set_option maxHeartbeats 4000000 in
set_option maxRecDepth 100000 in
theorem c_X9_spot {l : Launch} {D : va_G} {cI cZ : ClassId} {ad : Nat → Nat} {σ : St} {sp mo hx : Int} (hD : ∀ τ, va_D (AD ad 45) (wsX cI ad τ)) (hB : Bd σ) (r_sp : rg sp) (r_mo : rg mo) (r_hx : rg hx) : JMi l yX9_spot cX9_spot 4 (some .int) rm_X9_spot D [(cI, .int), (cZ, .boolean)] (AD ad 45) (wsX cI ad) [.ref (ad 0), .int (I sp), .int (I mo), .int (I hx)] σ (fun r τ => r = (spotS σ sp mo hx).1 ∧ Eqp τ (spotS σ sp mo hx).2) := by
  refine JMi.of RX9 (by decide +kernel) rfl (Nat.le_of_ble_eq_true rfl) hD ?_
  intro p e s m args below meth c Q J fin H ls hw hl
  generalize ([] : List Loc) = locs at hw ⊢
  have hl : lv_has ls 4 [(0, .ref (ad 0)), (1, .int (I sp)), (2, .int (I mo)), (3, .int (I hx))] := hl
  have hd : Dim _ := hB.dim
  have hd1 := hd.1; have hd2 := hd.2.1; have hd3 := hd.2.2.1; have hd4 := hd.2.2.2; have hm := hd.mul
  have u_sp := r_sp; unfold rg at u_sp
  have u_mo := r_mo; unfold rg at u_mo
  have u_hx := r_hx; unfold rg at u_hx
  refine j_aload_n J dX9_spot_0 rfl (lv_at hl 0 rfl) ?_
  refine xg_9_6 J hw lk_X9_56 dX9_spot_1 ?_
  refine j_iload_n J dX9_spot_4 rfl (lv_at hl 1 rfl) ?_
  refine k_X7_has (sp := sp) (σ := σ) hD (show rg sp from by unfold rg; omega) J hw hl.1 lk_X9_113 ⟨Nat.le_of_ble_eq_true rfl, Nat.le_of_ble_eq_true rfl⟩ (Nat.le_of_ble_eq_true rfl) dX9_spot_5 (fun H locs hw => ?_)
  refine j_ifeqB J 31 dX9_spot_8 (by decide) (fun (h_1 : ¬ (0 ≤ sp ∧ sp ≤ 2)) => ?_) (fun (h_1 : 0 ≤ sp ∧ sp ≤ 2) => ?_)
  · refine j_iconst J (-1) dX9_spot_31 ?_
    exact fin _ _ _ _ _ _ dX9_spot_32 rfl (by first | (unfold spotS; (repeat (first | rw [if_pos (by omega)] | rw [if_neg (by omega)])); exact ⟨rfl, Eqp.rf⟩) | (exfalso; omega)) hw
  · refine j_iload_n J dX9_spot_11 rfl (lv_at hl 2 rfl) ?_
    refine j_iconst J (0) dX9_spot_12 ?_
    refine j_ldc J (100000) lk_X9_114 dX9_spot_13 ?_
    refine k_X9_within (v := mo) (lo := 0) (hi := 100000) (σ := σ) hD (show rg mo from by unfold rg; omega) (show rg 0 from by unfold rg; omega) (show rg 100000 from by unfold rg; omega) J hw hl.1 lk_X9_78 ⟨Nat.le_of_ble_eq_true rfl, Nat.le_of_ble_eq_true rfl⟩ (Nat.le_of_ble_eq_true rfl) dX9_spot_15 (fun H locs hw => ?_)
    refine j_ifeqB J 31 dX9_spot_18 (by decide) (fun (h_2 : ¬ (0 ≤ mo ∧ mo ≤ 100000)) => ?_) (fun (h_2 : 0 ≤ mo ∧ mo ≤ 100000) => ?_)
    · refine j_iconst J (-1) dX9_spot_31 ?_
      exact fin _ _ _ _ _ _ dX9_spot_32 rfl (by first | (unfold spotS; (repeat (first | rw [if_pos (by omega)] | rw [if_neg (by omega)])); exact ⟨rfl, Eqp.rf⟩) | (exfalso; omega)) hw
    · refine j_iload_n J dX9_spot_21 rfl (lv_at hl 3 rfl) ?_
      refine j_iconst J (1) dX9_spot_22 ?_
      refine j_bipush J (20) dX9_spot_23 (by decide) ?_
      refine k_X9_within (v := hx) (lo := 1) (hi := 20) (σ := σ) hD (show rg hx from by unfold rg; omega) (show rg 1 from by unfold rg; omega) (show rg 20 from by unfold rg; omega) J hw hl.1 lk_X9_78 ⟨Nat.le_of_ble_eq_true rfl, Nat.le_of_ble_eq_true rfl⟩ (Nat.le_of_ble_eq_true rfl) dX9_spot_25 (fun H locs hw => ?_)
      refine j_ifneB J 33 dX9_spot_28 (by decide) (fun (h_3 : 1 ≤ hx ∧ hx ≤ 20) => ?_) (fun (h_3 : ¬ (1 ≤ hx ∧ hx ≤ 20)) => ?_)
      · refine j_aload_n J dX9_spot_33 rfl (lv_at hl 0 rfl) ?_
        refine xg_9_6 J hw lk_X9_56 dX9_spot_34 ?_
        refine xg_7_0 J hw lk_X9_115 dX9_spot_37 ?_
        refine j_iload_n J dX9_spot_40 rfl (lv_at hl 1 rfl) ?_
        refine k_X2_get (k := 10) (i := sp) (σ := σ) hD (by decide) (show 0 ≤ sp ∧ sp < ((3 : Nat) : Int) from by omega) J hw hl.1 lk_X9_118 ⟨Nat.le_of_ble_eq_true rfl, Nat.le_of_ble_eq_true rfl⟩ (Nat.le_of_ble_eq_true rfl) dX9_spot_41 (fun H locs hw => ?_)
        refine j_iload_n J dX9_spot_44 rfl (lv_at hl 2 rfl) ?_
        have b1 := hB.held sp
        refine j_icmp_le J 51 (show rg (σ 10 sp) by unfold rg; omega) (show rg mo by unfold rg; omega) dX9_spot_45 (by decide) (fun (h_4 : (σ 10 sp) ≤ mo) => ?_) (fun (h_4 : mo < (σ 10 sp)) => ?_)
        · refine j_aload_n J dX9_spot_51 rfl (lv_at hl 0 rfl) ?_
          refine xg_9_6 J hw lk_X9_56 dX9_spot_52 ?_
          refine xg_7_1 J hw lk_X9_121 dX9_spot_55 ?_
          refine j_iload_n J dX9_spot_58 rfl (lv_at hl 1 rfl) ?_
          refine j_iload_n J dX9_spot_59 rfl (lv_at hl 2 rfl) ?_
          refine k_X2_put (k := 11) (i := sp) (v := mo) (σ := σ) hD (by decide) (show 0 ≤ sp ∧ sp < ((3 : Nat) : Int) from by omega) J hw hl.1 lk_X9_93 ⟨Nat.le_of_ble_eq_true rfl, Nat.le_of_ble_eq_true rfl⟩ (Nat.le_of_ble_eq_true rfl) dX9_spot_60 (fun H locs hw => ?_)
          refine j_pop J dX9_spot_63 rfl ?_
          refine j_aload_n J dX9_spot_64 rfl (lv_at hl 0 rfl) ?_
          refine xg_9_6 J hw lk_X9_56 dX9_spot_65 ?_
          refine xg_7_2 J hw lk_X9_124 dX9_spot_68 ?_
          refine j_iload_n J dX9_spot_71 rfl (lv_at hl 1 rfl) ?_
          refine j_iload_n J dX9_spot_72 rfl (lv_at hl 3 rfl) ?_
          refine k_X2_put (k := 12) (i := sp) (v := hx) (σ := st σ 11 sp mo) hD (by decide) (show 0 ≤ sp ∧ sp < ((3 : Nat) : Int) from by omega) J hw hl.1 lk_X9_93 ⟨Nat.le_of_ble_eq_true rfl, Nat.le_of_ble_eq_true rfl⟩ (Nat.le_of_ble_eq_true rfl) dX9_spot_73 (fun H locs hw => ?_)
          refine j_pop J dX9_spot_76 rfl ?_
          refine j_aload_n J dX9_spot_77 rfl (lv_at hl 0 rfl) ?_
          refine xg_9_6 J hw lk_X9_56 dX9_spot_78 ?_
          refine xg_7_0 J hw lk_X9_115 dX9_spot_81 ?_
          refine j_iload_n J dX9_spot_84 rfl (lv_at hl 1 rfl) ?_
          refine k_X2_get (k := 10) (i := sp) (σ := st (st σ 11 sp mo) 12 sp hx) hD (by decide) (show 0 ≤ sp ∧ sp < ((3 : Nat) : Int) from by omega) J hw hl.1 lk_X9_118 ⟨Nat.le_of_ble_eq_true rfl, Nat.le_of_ble_eq_true rfl⟩ (Nat.le_of_ble_eq_true rfl) dX9_spot_85 (fun H locs hw => ?_)
          exact fin _ _ _ _ _ _ dX9_spot_88 rfl (by first | (unfold spotS; (repeat (first | rw [if_pos (by omega)] | rw [if_neg (by omega)])); exact ⟨rfl, Eqp.rf⟩) | (exfalso; omega)) hw
        · refine j_bipush J (-2) dX9_spot_48 (by decide) ?_
          exact fin _ _ _ _ _ _ dX9_spot_50 rfl (by first | (unfold spotS; (repeat (first | rw [if_pos (by omega)] | rw [if_neg (by omega)])); exact ⟨rfl, Eqp.rf⟩) | (exfalso; omega)) hw
      · refine j_iconst J (-1) dX9_spot_31 ?_
        exact fin _ _ _ _ _ _ dX9_spot_32 rfl (by first | (unfold spotS; (repeat (first | rw [if_pos (by omega)] | rw [if_neg (by omega)])); exact ⟨rfl, Eqp.rf⟩) | (exfalso; omega)) hw
theorem k_X9_spot {p : Program} {l : Launch} {e : Env} {R : Room} {s : State} {m : MethodId} {args : Array Value} {below : List Frame} {meth : Method} {c : Code} {H : Heap} {locs : List Loc} {Q : State → Prop} {cc : ByteArray} {pc : Nat} {ls : Array Slot} {rest : List Value} {nL : Nat} {own : String} {D : va_G} {σ : St} {cI cZ : ClassId} {ad : Nat → Nat} {index : Nat} {sp mo hx : Int} (hD : ∀ τ, va_D (AD ad 45) (wsX cI ad τ)) (hB : Bd σ) (r_sp : rg sp) (r_mo : rg mo) (r_hx : rg hx) (J : Jx p m c cc nL s args own D [(cI, .int), (cZ, .boolean)] (AD ad 45) (wsX cI ad)) (hw : jW D (AD ad 45) s.heap (wsX cI ad σ) H locs) (hsz : ls.size = nL) (hlk : Cond.methodLink own index yX9_spot ∈ TBw) (hR : 3 ≤ R.frames ∧ 66 ≤ R.locals) (hroom : (rest.map fun v => v.category).sum ≤ 8) (hdg : decode cc pc = .ok (.invokevirtual index, 3)) (kk : ∀ (r : Int) (τ : St) (H1 : Heap) (locs1 : List Loc), (fun r τ => r = (spotS σ sp mo hx).1 ∧ Eqp τ (spotS σ sp mo hx).2) r τ → jW D (AD ad 45) s.heap (wsX cI ad τ) H1 locs1 → W p l e R s m args below meth c H1 locs1 0 0 Q (F0 m (pc + 3) ls (.int (I r) :: rest))) : W p l e R s m args below meth c H locs 0 0 Q (F0 m pc ls (.int (I hx) :: .int (I mo) :: .int (I sp) :: .ref (ad 0) :: rest)) := 
  j_callVi J hw (c_X9_spot  hD hB r_sp r_mo r_hx) hlk in_X9_spot se_X9_spot ini_X9 co_X9_spot (n := 3) (by decide +kernel) ⟨rfl, rfl, hR.1, hR.2⟩ (j := 0) (ci := 9) rfl rfl rfl rfl hroom hsz ⟨Nat.zero_le _, Nat.zero_le _⟩ rfl hdg kk
def rm_X9_post : Room := { frames := 2, cells := 0, slots := 0, locals := 45 }
set_option maxHeartbeats 4000000 in
set_option maxRecDepth 100000 in
theorem c_X9_post {l : Launch} {D : va_G} {cI cZ : ClassId} {ad : Nat → Nat} {σ : St} {cl q : Int} (hD : ∀ τ, va_D (AD ad 45) (wsX cI ad τ)) (hB : Bd σ) (r_cl : rg cl) (r_q : rg q) : JMi l yX9_post cX9_post 3 (some .int) rm_X9_post D [(cI, .int), (cZ, .boolean)] (AD ad 45) (wsX cI ad) [.ref (ad 0), .int (I cl), .int (I q)] σ (fun r τ => r = (postS σ cl q).1 ∧ Eqp τ (postS σ cl q).2) := by
  refine JMi.of RX9 (by decide +kernel) rfl (Nat.le_of_ble_eq_true rfl) hD ?_
  intro p e s m args below meth c Q J fin H ls hw hl
  generalize ([] : List Loc) = locs at hw ⊢
  have hl : lv_has ls 3 [(0, .ref (ad 0)), (1, .int (I cl)), (2, .int (I q))] := hl
  have hd : Dim _ := hB.dim
  have hd1 := hd.1; have hd2 := hd.2.1; have hd3 := hd.2.2.1; have hd4 := hd.2.2.2; have hm := hd.mul
  have u_cl := r_cl; unfold rg at u_cl
  have u_q := r_q; unfold rg at u_q
  have hq := hB.posts
  refine j_aload_n J dX9_post_0 rfl (lv_at hl 0 rfl) ?_
  refine xg_9_1 J hw lk_X9_21 dX9_post_1 ?_
  refine j_iload_n J dX9_post_4 rfl (lv_at hl 1 rfl) ?_
  refine k_X1_has (cell := cl) (σ := σ) hD (show Dim σ from hd) (show rg cl from by unfold rg; omega) J hw hl.1 lk_X9_86 ⟨Nat.le_of_ble_eq_true rfl, Nat.le_of_ble_eq_true rfl⟩ (Nat.le_of_ble_eq_true rfl) dX9_post_5 (fun H locs hw => ?_)
  refine j_ifeqB J 22 dX9_post_8 (by decide) (fun (h_1 : ¬ (0 ≤ cl ∧ cl ≤ σ 18 0 * σ 18 1 - 1)) => ?_) (fun (h_1 : 0 ≤ cl ∧ cl ≤ σ 18 0 * σ 18 1 - 1) => ?_)
  · refine j_iconst J (-1) dX9_post_22 ?_
    exact fin _ _ _ _ _ _ dX9_post_23 rfl (by first | (unfold postS; (repeat (first | rw [if_pos (by omega)] | rw [if_neg (by omega)])); exact ⟨rfl, Eqp.rf⟩) | (exfalso; omega)) hw
  · refine j_iload_n J dX9_post_11 rfl (lv_at hl 2 rfl) ?_
    refine j_iconst J (0) dX9_post_12 ?_
    refine j_sipush J (10000) dX9_post_13 (by decide) ?_
    refine k_X9_within (v := q) (lo := 0) (hi := 10000) (σ := σ) hD (show rg q from by unfold rg; omega) (show rg 0 from by unfold rg; omega) (show rg 10000 from by unfold rg; omega) J hw hl.1 lk_X9_78 ⟨Nat.le_of_ble_eq_true rfl, Nat.le_of_ble_eq_true rfl⟩ (Nat.le_of_ble_eq_true rfl) dX9_post_16 (fun H locs hw => ?_)
    refine j_ifneB J 24 dX9_post_19 (by decide) (fun (h_2 : 0 ≤ q ∧ q ≤ 10000) => ?_) (fun (h_2 : ¬ (0 ≤ q ∧ q ≤ 10000)) => ?_)
    · refine j_aload_n J dX9_post_24 rfl (lv_at hl 0 rfl) ?_
      refine xg_9_7 J hw lk_X9_63 dX9_post_25 ?_
      refine k_X4_isFull (σ := σ) hD (show 0 ≤ σ 18 6 ∧ σ 18 6 ≤ 8 from hB.posts) J hw hl.1 lk_X9_127 ⟨Nat.le_of_ble_eq_true rfl, Nat.le_of_ble_eq_true rfl⟩ (Nat.le_of_ble_eq_true rfl) dX9_post_28 (fun H locs hw => ?_)
      refine j_ifeqB J 39 dX9_post_31 (by decide) (fun (h_3 : ¬ (8 ≤ σ 18 6)) => ?_) (fun (h_3 : 8 ≤ σ 18 6) => ?_)
      · refine j_aload_n J dX9_post_39 rfl (lv_at hl 0 rfl) ?_
        refine xg_9_7 J hw lk_X9_63 dX9_post_40 ?_
        refine j_iload_n J dX9_post_43 rfl (lv_at hl 1 rfl) ?_
        refine j_iload_n J dX9_post_44 rfl (lv_at hl 2 rfl) ?_
        refine k_X4_put (cell := cl) (lim := q) (σ := σ) hD (show 0 ≤ σ 18 6 ∧ σ 18 6 < 8 from by omega) J hw hl.1 lk_X9_131 ⟨Nat.le_of_ble_eq_true rfl, Nat.le_of_ble_eq_true rfl⟩ (Nat.le_of_ble_eq_true rfl) dX9_post_45 (fun H locs hw => ?_)
        exact fin _ _ _ _ _ _ dX9_post_48 rfl (by first | (unfold postS; (repeat (first | rw [if_pos (by omega)] | rw [if_neg (by omega)])); exact ⟨rfl, Eqp.rf⟩) | (exfalso; omega)) hw
      · refine j_bipush J (-3) dX9_post_34 (by decide) ?_
        refine j_goto J 48 dX9_post_36 (by decide) ?_
        exact fin _ _ _ _ _ _ dX9_post_48 rfl (by first | (unfold postS; (repeat (first | rw [if_pos (by omega)] | rw [if_neg (by omega)])); exact ⟨rfl, Eqp.rf⟩) | (exfalso; omega)) hw
    · refine j_iconst J (-1) dX9_post_22 ?_
      exact fin _ _ _ _ _ _ dX9_post_23 rfl (by first | (unfold postS; (repeat (first | rw [if_pos (by omega)] | rw [if_neg (by omega)])); exact ⟨rfl, Eqp.rf⟩) | (exfalso; omega)) hw
theorem k_X9_post {p : Program} {l : Launch} {e : Env} {R : Room} {s : State} {m : MethodId} {args : Array Value} {below : List Frame} {meth : Method} {c : Code} {H : Heap} {locs : List Loc} {Q : State → Prop} {cc : ByteArray} {pc : Nat} {ls : Array Slot} {rest : List Value} {nL : Nat} {own : String} {D : va_G} {σ : St} {cI cZ : ClassId} {ad : Nat → Nat} {index : Nat} {cl q : Int} (hD : ∀ τ, va_D (AD ad 45) (wsX cI ad τ)) (hB : Bd σ) (r_cl : rg cl) (r_q : rg q) (J : Jx p m c cc nL s args own D [(cI, .int), (cZ, .boolean)] (AD ad 45) (wsX cI ad)) (hw : jW D (AD ad 45) s.heap (wsX cI ad σ) H locs) (hsz : ls.size = nL) (hlk : Cond.methodLink own index yX9_post ∈ TBw) (hR : 3 ≤ R.frames ∧ 67 ≤ R.locals) (hroom : (rest.map fun v => v.category).sum ≤ 8) (hdg : decode cc pc = .ok (.invokevirtual index, 3)) (kk : ∀ (r : Int) (τ : St) (H1 : Heap) (locs1 : List Loc), (fun r τ => r = (postS σ cl q).1 ∧ Eqp τ (postS σ cl q).2) r τ → jW D (AD ad 45) s.heap (wsX cI ad τ) H1 locs1 → W p l e R s m args below meth c H1 locs1 0 0 Q (F0 m (pc + 3) ls (.int (I r) :: rest))) : W p l e R s m args below meth c H locs 0 0 Q (F0 m pc ls (.int (I q) :: .int (I cl) :: .ref (ad 0) :: rest)) := 
  j_callVi J hw (c_X9_post  hD hB r_cl r_q) hlk in_X9_post se_X9_post ini_X9 co_X9_post (n := 2) (by decide +kernel) ⟨rfl, rfl, hR.1, hR.2⟩ (j := 0) (ci := 9) rfl rfl rfl rfl hroom hsz ⟨Nat.zero_le _, Nat.zero_le _⟩ rfl hdg kk
def rm_X9_best : Room := { frames := 2, cells := 0, slots := 0, locals := 45 }
set_option maxHeartbeats 4000000 in
set_option maxRecDepth 100000 in
theorem c_X9_best {l : Launch} {D : va_G} {cI cZ : ClassId} {ad : Nat → Nat} {σ : St} {sp : Int} (hD : ∀ τ, va_D (AD ad 45) (wsX cI ad τ)) (hB : Bd σ) (r_sp : rg sp) : JMi l yX9_best cX9_best 2 (some .int) rm_X9_best D [(cI, .int), (cZ, .boolean)] (AD ad 45) (wsX cI ad) [.ref (ad 0), .int (I sp)] σ (fun r τ => r = (bestS σ sp).1 ∧ Eqp τ (bestS σ sp).2) := by
  refine JMi.of RX9 (by decide +kernel) rfl (Nat.le_of_ble_eq_true rfl) hD ?_
  intro p e s m args below meth c Q J fin H ls hw hl
  generalize ([] : List Loc) = locs at hw ⊢
  have hl : lv_has ls 2 [(0, .ref (ad 0)), (1, .int (I sp))] := hl
  have hd : Dim _ := hB.dim
  have hd1 := hd.1; have hd2 := hd.2.1; have hd3 := hd.2.2.1; have hd4 := hd.2.2.2; have hm := hd.mul
  have u_sp := r_sp; unfold rg at u_sp
  refine j_aload_n J dX9_best_0 rfl (lv_at hl 0 rfl) ?_
  refine xg_9_6 J hw lk_X9_56 dX9_best_1 ?_
  refine j_iload_n J dX9_best_4 rfl (lv_at hl 1 rfl) ?_
  refine k_X7_has (sp := sp) (σ := σ) hD (show rg sp from by unfold rg; omega) J hw hl.1 lk_X9_113 ⟨Nat.le_of_ble_eq_true rfl, Nat.le_of_ble_eq_true rfl⟩ (Nat.le_of_ble_eq_true rfl) dX9_best_5 (fun H locs hw => ?_)
  refine j_ifneB J 13 dX9_best_8 (by decide) (fun (h_1 : 0 ≤ sp ∧ sp ≤ 2) => ?_) (fun (h_1 : ¬ (0 ≤ sp ∧ sp ≤ 2)) => ?_)
  · have b1 := hB.away sp (by omega) (by omega)
    refine j_aload_n J dX9_best_13 rfl (lv_at hl 0 rfl) ?_
    refine xg_9_4 J hw lk_X9_42 dX9_best_14 ?_
    refine j_aload_n J dX9_best_17 rfl (lv_at hl 0 rfl) ?_
    refine xg_9_6 J hw lk_X9_56 dX9_best_18 ?_
    refine xg_7_2 J hw lk_X9_124 dX9_best_21 ?_
    refine j_iload_n J dX9_best_24 rfl (lv_at hl 1 rfl) ?_
    refine k_X2_get (k := 12) (i := sp) (σ := σ) hD (by decide) (show 0 ≤ sp ∧ sp < ((3 : Nat) : Int) from by omega) J hw hl.1 lk_X9_118 ⟨Nat.le_of_ble_eq_true rfl, Nat.le_of_ble_eq_true rfl⟩ (Nat.le_of_ble_eq_true rfl) dX9_best_25 (fun H locs hw => ?_)
    refine k_X6_bestMinutes (a := σ 12 sp) (σ := σ) hD (show Bd σ from hB) (show 1 ≤ (σ 12 sp) ∧ (σ 12 sp) ≤ 20 from by omega) J hw hl.1 lk_X9_132 ⟨Nat.le_of_ble_eq_true rfl, Nat.le_of_ble_eq_true rfl⟩ (Nat.le_of_ble_eq_true rfl) dX9_best_28 (fun H locs hw => ?_)
    exact fin _ _ _ _ _ _ dX9_best_31 rfl (by first | (unfold bestS; (repeat (first | rw [if_pos (by omega)] | rw [if_neg (by omega)])); exact ⟨rfl, Eqp.rf⟩) | (exfalso; omega)) hw
  · refine j_iconst J (-1) dX9_best_11 ?_
    exact fin _ _ _ _ _ _ dX9_best_12 rfl (by first | (unfold bestS; (repeat (first | rw [if_pos (by omega)] | rw [if_neg (by omega)])); exact ⟨rfl, Eqp.rf⟩) | (exfalso; omega)) hw
theorem k_X9_best {p : Program} {l : Launch} {e : Env} {R : Room} {s : State} {m : MethodId} {args : Array Value} {below : List Frame} {meth : Method} {c : Code} {H : Heap} {locs : List Loc} {Q : State → Prop} {cc : ByteArray} {pc : Nat} {ls : Array Slot} {rest : List Value} {nL : Nat} {own : String} {D : va_G} {σ : St} {cI cZ : ClassId} {ad : Nat → Nat} {index : Nat} {sp : Int} (hD : ∀ τ, va_D (AD ad 45) (wsX cI ad τ)) (hB : Bd σ) (r_sp : rg sp) (J : Jx p m c cc nL s args own D [(cI, .int), (cZ, .boolean)] (AD ad 45) (wsX cI ad)) (hw : jW D (AD ad 45) s.heap (wsX cI ad σ) H locs) (hsz : ls.size = nL) (hlk : Cond.methodLink own index yX9_best ∈ TBw) (hR : 3 ≤ R.frames ∧ 66 ≤ R.locals) (hroom : (rest.map fun v => v.category).sum ≤ 8) (hdg : decode cc pc = .ok (.invokevirtual index, 3)) (kk : ∀ (r : Int) (τ : St) (H1 : Heap) (locs1 : List Loc), (fun r τ => r = (bestS σ sp).1 ∧ Eqp τ (bestS σ sp).2) r τ → jW D (AD ad 45) s.heap (wsX cI ad τ) H1 locs1 → W p l e R s m args below meth c H1 locs1 0 0 Q (F0 m (pc + 3) ls (.int (I r) :: rest))) : W p l e R s m args below meth c H locs 0 0 Q (F0 m pc ls (.int (I sp) :: .ref (ad 0) :: rest)) := 
  j_callVi J hw (c_X9_best  hD hB r_sp) hlk in_X9_best se_X9_best ini_X9 co_X9_best (n := 1) (by decide +kernel) ⟨rfl, rfl, hR.1, hR.2⟩ (j := 0) (ci := 9) rfl rfl rfl rfl hroom hsz ⟨Nat.zero_le _, Nat.zero_le _⟩ rfl hdg kk
def rm_X9_sound : Room := { frames := 3, cells := 0, slots := 0, locals := 69 }
set_option maxHeartbeats 4000000 in
set_option maxRecDepth 100000 in
theorem c_X9_sound {l : Launch} {D : va_G} {cI cZ : ClassId} {ad : Nat → Nat} {σ : St} {sh : Int} (hD : ∀ τ, va_D (AD ad 45) (wsX cI ad τ)) (hB : Bd σ) (r_sh : rg sh) : JMi l yX9_sound cX9_sound 2 (some .int) rm_X9_sound D [(cI, .int), (cZ, .boolean)] (AD ad 45) (wsX cI ad) [.ref (ad 0), .int (I sh)] σ (fun r τ => r = (soundS σ sh).1 ∧ Eqp τ (soundS σ sh).2) := by
  refine JMi.of RX9 (by decide +kernel) rfl (Nat.le_of_ble_eq_true rfl) hD ?_
  intro p e s m args below meth c Q J fin H ls hw hl
  generalize ([] : List Loc) = locs at hw ⊢
  have hl : lv_has ls 2 [(0, .ref (ad 0)), (1, .int (I sh))] := hl
  have hd : Dim _ := hB.dim
  have hd1 := hd.1; have hd2 := hd.2.1; have hd3 := hd.2.2.1; have hd4 := hd.2.2.2; have hm := hd.mul
  have u_sh := r_sh; unfold rg at u_sh
  refine j_aload_n J dX9_sound_0 rfl (lv_at hl 0 rfl) ?_
  refine xg_9_8 J hw lk_X9_70 dX9_sound_1 ?_
  refine j_iload_n J dX9_sound_4 rfl (lv_at hl 1 rfl) ?_
  refine k_X5_has (sh := sh) (σ := σ) hD (show rg sh from by unfold rg; omega) J hw hl.1 lk_X9_168 ⟨Nat.le_of_ble_eq_true rfl, Nat.le_of_ble_eq_true rfl⟩ (Nat.le_of_ble_eq_true rfl) dX9_sound_5 (fun H locs hw => ?_)
  refine j_ifneB J 13 dX9_sound_8 (by decide) (fun (h_1 : 0 ≤ sh ∧ sh ≤ 5) => ?_) (fun (h_1 : ¬ (0 ≤ sh ∧ sh ≤ 5)) => ?_)
  · refine j_aload_n J dX9_sound_13 rfl (lv_at hl 0 rfl) ?_
    refine xg_9_8 J hw lk_X9_70 dX9_sound_14 ?_
    refine j_iload_n J dX9_sound_17 rfl (lv_at hl 1 rfl) ?_
    refine j_aload_n J dX9_sound_18 rfl (lv_at hl 0 rfl) ?_
    refine xg_9_1 J hw lk_X9_21 dX9_sound_19 ?_
    refine k_X5_take (sh := sh) (σ := σ) hD (show Bd σ from hB) (show 0 ≤ sh ∧ sh ≤ 5 from by omega) J hw hl.1 lk_X9_169 ⟨Nat.le_of_ble_eq_true rfl, Nat.le_of_ble_eq_true rfl⟩ (Nat.le_of_ble_eq_true rfl) dX9_sound_22 (fun H locs hw => ?_)
    refine j_iconst J (0) dX9_sound_25 ?_
    exact fin _ _ _ _ _ _ dX9_sound_26 rfl (by first | (unfold soundS; (repeat (first | rw [if_pos (by omega)] | rw [if_neg (by omega)])); exact ⟨rfl, Eqp.rf⟩) | (exfalso; omega)) hw
  · refine j_iconst J (-1) dX9_sound_11 ?_
    exact fin _ _ _ _ _ _ dX9_sound_12 rfl (by first | (unfold soundS; (repeat (first | rw [if_pos (by omega)] | rw [if_neg (by omega)])); exact ⟨rfl, Eqp.rf⟩) | (exfalso; omega)) hw
theorem k_X9_sound {p : Program} {l : Launch} {e : Env} {R : Room} {s : State} {m : MethodId} {args : Array Value} {below : List Frame} {meth : Method} {c : Code} {H : Heap} {locs : List Loc} {Q : State → Prop} {cc : ByteArray} {pc : Nat} {ls : Array Slot} {rest : List Value} {nL : Nat} {own : String} {D : va_G} {σ : St} {cI cZ : ClassId} {ad : Nat → Nat} {index : Nat} {sh : Int} (hD : ∀ τ, va_D (AD ad 45) (wsX cI ad τ)) (hB : Bd σ) (r_sh : rg sh) (J : Jx p m c cc nL s args own D [(cI, .int), (cZ, .boolean)] (AD ad 45) (wsX cI ad)) (hw : jW D (AD ad 45) s.heap (wsX cI ad σ) H locs) (hsz : ls.size = nL) (hlk : Cond.methodLink own index yX9_sound ∈ TBw) (hR : 4 ≤ R.frames ∧ 90 ≤ R.locals) (hroom : (rest.map fun v => v.category).sum ≤ 8) (hdg : decode cc pc = .ok (.invokevirtual index, 3)) (kk : ∀ (r : Int) (τ : St) (H1 : Heap) (locs1 : List Loc), (fun r τ => r = (soundS σ sh).1 ∧ Eqp τ (soundS σ sh).2) r τ → jW D (AD ad 45) s.heap (wsX cI ad τ) H1 locs1 → W p l e R s m args below meth c H1 locs1 0 0 Q (F0 m (pc + 3) ls (.int (I r) :: rest))) : W p l e R s m args below meth c H locs 0 0 Q (F0 m pc ls (.int (I sh) :: .ref (ad 0) :: rest)) := 
  j_callVi J hw (c_X9_sound  hD hB r_sh) hlk in_X9_sound se_X9_sound ini_X9 co_X9_sound (n := 1) (by decide +kernel) ⟨rfl, rfl, hR.1, hR.2⟩ (j := 0) (ci := 9) rfl rfl rfl rfl hroom hsz ⟨Nat.zero_le _, Nat.zero_le _⟩ rfl hdg kk
def rm_X9_lose : Room := { frames := 4, cells := 0, slots := 0, locals := 88 }
set_option maxHeartbeats 4000000 in
set_option maxRecDepth 100000 in
theorem c_X9_lose {l : Launch} {D : va_G} {cI cZ : ClassId} {ad : Nat → Nat} {σ : St} {sh cl : Int} (hD : ∀ τ, va_D (AD ad 45) (wsX cI ad τ)) (hB : Bd σ) (r_sh : rg sh) (r_cl : rg cl) : JMi l yX9_lose cX9_lose 3 (some .int) rm_X9_lose D [(cI, .int), (cZ, .boolean)] (AD ad 45) (wsX cI ad) [.ref (ad 0), .int (I sh), .int (I cl)] σ (fun r τ => r = (loseS σ sh cl).1 ∧ Eqp τ (loseS σ sh cl).2) := by
  refine JMi.of RX9 (by decide +kernel) rfl (Nat.le_of_ble_eq_true rfl) hD ?_
  intro p e s m args below meth c Q J fin H ls hw hl
  generalize ([] : List Loc) = locs at hw ⊢
  have hl : lv_has ls 3 [(0, .ref (ad 0)), (1, .int (I sh)), (2, .int (I cl))] := hl
  have hd : Dim _ := hB.dim
  have hd1 := hd.1; have hd2 := hd.2.1; have hd3 := hd.2.2.1; have hd4 := hd.2.2.2; have hm := hd.mul
  have u_sh := r_sh; unfold rg at u_sh
  have u_cl := r_cl; unfold rg at u_cl
  refine j_aload_n J dX9_lose_0 rfl (lv_at hl 0 rfl) ?_
  refine xg_9_8 J hw lk_X9_70 dX9_lose_1 ?_
  refine j_iload_n J dX9_lose_4 rfl (lv_at hl 1 rfl) ?_
  refine k_X5_has (sh := sh) (σ := σ) hD (show rg sh from by unfold rg; omega) J hw hl.1 lk_X9_168 ⟨Nat.le_of_ble_eq_true rfl, Nat.le_of_ble_eq_true rfl⟩ (Nat.le_of_ble_eq_true rfl) dX9_lose_5 (fun H locs hw => ?_)
  refine j_ifeqB J 22 dX9_lose_8 (by decide) (fun (h_1 : ¬ (0 ≤ sh ∧ sh ≤ 5)) => ?_) (fun (h_1 : 0 ≤ sh ∧ sh ≤ 5) => ?_)
  · refine j_iconst J (-1) dX9_lose_22 ?_
    exact fin _ _ _ _ _ _ dX9_lose_23 rfl (by first | (unfold loseS; (repeat (first | rw [if_pos (by omega)] | rw [if_neg (by omega)])); exact ⟨rfl, Eqp.rf⟩) | (exfalso; omega)) hw
  · refine j_aload_n J dX9_lose_11 rfl (lv_at hl 0 rfl) ?_
    refine xg_9_1 J hw lk_X9_21 dX9_lose_12 ?_
    refine j_iload_n J dX9_lose_15 rfl (lv_at hl 2 rfl) ?_
    refine k_X1_has (cell := cl) (σ := σ) hD (show Dim σ from hd) (show rg cl from by unfold rg; omega) J hw hl.1 lk_X9_86 ⟨Nat.le_of_ble_eq_true rfl, Nat.le_of_ble_eq_true rfl⟩ (Nat.le_of_ble_eq_true rfl) dX9_lose_16 (fun H locs hw => ?_)
    refine j_ifneB J 24 dX9_lose_19 (by decide) (fun (h_2 : 0 ≤ cl ∧ cl ≤ σ 18 0 * σ 18 1 - 1) => ?_) (fun (h_2 : ¬ (0 ≤ cl ∧ cl ≤ σ 18 0 * σ 18 1 - 1)) => ?_)
    · refine j_aload_n J dX9_lose_24 rfl (lv_at hl 0 rfl) ?_
      refine xg_9_8 J hw lk_X9_70 dX9_lose_25 ?_
      refine j_iload_n J dX9_lose_28 rfl (lv_at hl 1 rfl) ?_
      refine k_X5_isMissing (sh := sh) (σ := σ) hD (show 0 ≤ sh ∧ sh ≤ 5 from by omega) (show 0 ≤ σ 17 sh ∧ σ 17 sh ≤ 1 from hB.taken _) J hw hl.1 lk_X9_173 ⟨Nat.le_of_ble_eq_true rfl, Nat.le_of_ble_eq_true rfl⟩ (Nat.le_of_ble_eq_true rfl) dX9_lose_29 (fun H locs hw => ?_)
      refine j_ifeqB J 38 dX9_lose_32 (by decide) (fun (h_3 : ¬ (σ 17 sh = 0)) => ?_) (fun (h_3 : σ 17 sh = 0) => ?_)
      · refine j_aload_n J dX9_lose_38 rfl (lv_at hl 0 rfl) ?_
        refine xg_9_8 J hw lk_X9_70 dX9_lose_39 ?_
        refine j_iload_n J dX9_lose_42 rfl (lv_at hl 1 rfl) ?_
        refine j_iload_n J dX9_lose_43 rfl (lv_at hl 2 rfl) ?_
        refine k_X5_makeGap (sh := sh) (cl := cl) (σ := σ) hD (show 0 ≤ sh ∧ sh ≤ 5 from by omega) (show 0 ≤ cl ∧ cl < 120 from by omega) (show -4 ≤ σ 16 (sh * 120 + cl) ∧ σ 16 (sh * 120 + cl) ≤ 400 from hB.sheet _) J hw hl.1 lk_X9_176 ⟨Nat.le_of_ble_eq_true rfl, Nat.le_of_ble_eq_true rfl⟩ (Nat.le_of_ble_eq_true rfl) dX9_lose_44 (fun H locs hw => ?_)
        refine j_ifeqB J 54 dX9_lose_47 (by decide) (fun (h_4 : ¬ (¬ σ 16 (sh * 120 + cl) = -4)) => ?_) (fun (h_4 : ¬ σ 16 (sh * 120 + cl) = -4) => ?_)
        · refine j_iconst J (0) dX9_lose_54 ?_
          exact fin _ _ _ _ _ _ dX9_lose_55 rfl (by first | (unfold loseS; (repeat (first | rw [if_pos (by omega)] | rw [if_neg (by omega)])); exact ⟨rfl, Eqp.rf⟩) | (exfalso; omega)) hw
        · refine j_iconst J (1) dX9_lose_50 ?_
          refine j_goto J 55 dX9_lose_51 (by decide) ?_
          exact fin _ _ _ _ _ _ dX9_lose_55 rfl (by first | (unfold loseS; (repeat (first | rw [if_pos (by omega)] | rw [if_neg (by omega)])); exact ⟨rfl, Eqp.rf⟩) | (exfalso; omega)) hw
      · refine j_bipush J (-2) dX9_lose_35 (by decide) ?_
        exact fin _ _ _ _ _ _ dX9_lose_37 rfl (by first | (unfold loseS; (repeat (first | rw [if_pos (by omega)] | rw [if_neg (by omega)])); exact ⟨rfl, Eqp.rf⟩) | (exfalso; omega)) hw
    · refine j_iconst J (-1) dX9_lose_22 ?_
      exact fin _ _ _ _ _ _ dX9_lose_23 rfl (by first | (unfold loseS; (repeat (first | rw [if_pos (by omega)] | rw [if_neg (by omega)])); exact ⟨rfl, Eqp.rf⟩) | (exfalso; omega)) hw
theorem k_X9_lose {p : Program} {l : Launch} {e : Env} {R : Room} {s : State} {m : MethodId} {args : Array Value} {below : List Frame} {meth : Method} {c : Code} {H : Heap} {locs : List Loc} {Q : State → Prop} {cc : ByteArray} {pc : Nat} {ls : Array Slot} {rest : List Value} {nL : Nat} {own : String} {D : va_G} {σ : St} {cI cZ : ClassId} {ad : Nat → Nat} {index : Nat} {sh cl : Int} (hD : ∀ τ, va_D (AD ad 45) (wsX cI ad τ)) (hB : Bd σ) (r_sh : rg sh) (r_cl : rg cl) (J : Jx p m c cc nL s args own D [(cI, .int), (cZ, .boolean)] (AD ad 45) (wsX cI ad)) (hw : jW D (AD ad 45) s.heap (wsX cI ad σ) H locs) (hsz : ls.size = nL) (hlk : Cond.methodLink own index yX9_lose ∈ TBw) (hR : 5 ≤ R.frames ∧ 110 ≤ R.locals) (hroom : (rest.map fun v => v.category).sum ≤ 8) (hdg : decode cc pc = .ok (.invokevirtual index, 3)) (kk : ∀ (r : Int) (τ : St) (H1 : Heap) (locs1 : List Loc), (fun r τ => r = (loseS σ sh cl).1 ∧ Eqp τ (loseS σ sh cl).2) r τ → jW D (AD ad 45) s.heap (wsX cI ad τ) H1 locs1 → W p l e R s m args below meth c H1 locs1 0 0 Q (F0 m (pc + 3) ls (.int (I r) :: rest))) : W p l e R s m args below meth c H locs 0 0 Q (F0 m pc ls (.int (I cl) :: .int (I sh) :: .ref (ad 0) :: rest)) := 
  j_callVi J hw (c_X9_lose  hD hB r_sh r_cl) hlk in_X9_lose se_X9_lose ini_X9 co_X9_lose (n := 2) (by decide +kernel) ⟨rfl, rfl, hR.1, hR.2⟩ (j := 0) (ci := 9) rfl rfl rfl rfl hroom hsz ⟨Nat.zero_le _, Nat.zero_le _⟩ rfl hdg kk
def rm_X9_join : Room := { frames := 4, cells := 0, slots := 0, locals := 90 }
set_option maxHeartbeats 4000000 in
set_option maxRecDepth 100000 in
theorem c_X9_join {l : Launch} {D : va_G} {cI cZ : ClassId} {ad : Nat → Nat} {σ : St} {sh tt : Int} (hD : ∀ τ, va_D (AD ad 45) (wsX cI ad τ)) (hB : Bd σ) (r_sh : rg sh) (r_tt : rg tt) : JMi l yX9_join cX9_join 3 (some .int) rm_X9_join D [(cI, .int), (cZ, .boolean)] (AD ad 45) (wsX cI ad) [.ref (ad 0), .int (I sh), .int (I tt)] σ (fun r τ => r = (joinS σ sh tt).1 ∧ Eqp τ (joinS σ sh tt).2) := by
  refine JMi.of RX9 (by decide +kernel) rfl (Nat.le_of_ble_eq_true rfl) hD ?_
  intro p e s m args below meth c Q J fin H ls hw hl
  generalize ([] : List Loc) = locs at hw ⊢
  have hl : lv_has ls 3 [(0, .ref (ad 0)), (1, .int (I sh)), (2, .int (I tt))] := hl
  have hd : Dim _ := hB.dim
  have hd1 := hd.1; have hd2 := hd.2.1; have hd3 := hd.2.2.1; have hd4 := hd.2.2.2; have hm := hd.mul
  have u_sh := r_sh; unfold rg at u_sh
  have u_tt := r_tt; unfold rg at u_tt
  refine j_aload_n J dX9_join_0 rfl (lv_at hl 0 rfl) ?_
  refine xg_9_8 J hw lk_X9_70 dX9_join_1 ?_
  refine j_iload_n J dX9_join_4 rfl (lv_at hl 1 rfl) ?_
  refine k_X5_has (sh := sh) (σ := σ) hD (show rg sh from by unfold rg; omega) J hw hl.1 lk_X9_168 ⟨Nat.le_of_ble_eq_true rfl, Nat.le_of_ble_eq_true rfl⟩ (Nat.le_of_ble_eq_true rfl) dX9_join_5 (fun H locs hw => ?_)
  refine j_ifeqB J 22 dX9_join_8 (by decide) (fun (h_1 : ¬ (0 ≤ sh ∧ sh ≤ 5)) => ?_) (fun (h_1 : 0 ≤ sh ∧ sh ≤ 5) => ?_)
  · refine j_iconst J (-1) dX9_join_22 ?_
    exact fin _ _ _ _ _ _ dX9_join_23 rfl (by first | (unfold joinS; (repeat (first | rw [if_pos (by omega)] | rw [if_neg (by omega)])); exact ⟨rfl, Eqp.rf⟩) | (exfalso; omega)) hw
  · refine j_aload_n J dX9_join_11 rfl (lv_at hl 0 rfl) ?_
    refine xg_9_8 J hw lk_X9_70 dX9_join_12 ?_
    refine j_iload_n J dX9_join_15 rfl (lv_at hl 2 rfl) ?_
    refine k_X5_has (sh := tt) (σ := σ) hD (show rg tt from by unfold rg; omega) J hw hl.1 lk_X9_168 ⟨Nat.le_of_ble_eq_true rfl, Nat.le_of_ble_eq_true rfl⟩ (Nat.le_of_ble_eq_true rfl) dX9_join_16 (fun H locs hw => ?_)
    refine j_ifneB J 24 dX9_join_19 (by decide) (fun (h_2 : 0 ≤ tt ∧ tt ≤ 5) => ?_) (fun (h_2 : ¬ (0 ≤ tt ∧ tt ≤ 5)) => ?_)
    · refine j_aload_n J dX9_join_24 rfl (lv_at hl 0 rfl) ?_
      refine xg_9_8 J hw lk_X9_70 dX9_join_25 ?_
      refine j_iload_n J dX9_join_28 rfl (lv_at hl 1 rfl) ?_
      refine k_X5_isMissing (sh := sh) (σ := σ) hD (show 0 ≤ sh ∧ sh ≤ 5 from by omega) (show 0 ≤ σ 17 sh ∧ σ 17 sh ≤ 1 from hB.taken _) J hw hl.1 lk_X9_173 ⟨Nat.le_of_ble_eq_true rfl, Nat.le_of_ble_eq_true rfl⟩ (Nat.le_of_ble_eq_true rfl) dX9_join_29 (fun H locs hw => ?_)
      refine j_ifneB J 46 dX9_join_32 (by decide) (fun (h_3 : σ 17 sh = 0) => ?_) (fun (h_3 : ¬ (σ 17 sh = 0)) => ?_)
      · refine j_bipush J (-2) dX9_join_46 (by decide) ?_
        exact fin _ _ _ _ _ _ dX9_join_48 rfl (by first | (unfold joinS; (repeat (first | rw [if_pos (by omega)] | rw [if_neg (by omega)])); exact ⟨rfl, Eqp.rf⟩) | (exfalso; omega)) hw
      · refine j_aload_n J dX9_join_35 rfl (lv_at hl 0 rfl) ?_
        refine xg_9_8 J hw lk_X9_70 dX9_join_36 ?_
        refine j_iload_n J dX9_join_39 rfl (lv_at hl 2 rfl) ?_
        refine k_X5_isMissing (sh := tt) (σ := σ) hD (show 0 ≤ tt ∧ tt ≤ 5 from by omega) (show 0 ≤ σ 17 tt ∧ σ 17 tt ≤ 1 from hB.taken _) J hw hl.1 lk_X9_173 ⟨Nat.le_of_ble_eq_true rfl, Nat.le_of_ble_eq_true rfl⟩ (Nat.le_of_ble_eq_true rfl) dX9_join_40 (fun H locs hw => ?_)
        refine j_ifeqB J 49 dX9_join_43 (by decide) (fun (h_4 : ¬ (σ 17 tt = 0)) => ?_) (fun (h_4 : σ 17 tt = 0) => ?_)
        · refine j_aload_n J dX9_join_49 rfl (lv_at hl 0 rfl) ?_
          refine xg_9_8 J hw lk_X9_70 dX9_join_50 ?_
          refine j_iload_n J dX9_join_53 rfl (lv_at hl 1 rfl) ?_
          refine j_iload_n J dX9_join_54 rfl (lv_at hl 2 rfl) ?_
          refine j_aload_n J dX9_join_55 rfl (lv_at hl 0 rfl) ?_
          refine xg_9_1 J hw lk_X9_21 dX9_join_56 ?_
          refine k_X1_size (σ := σ) hD  J hw hl.1 lk_X9_82 ⟨Nat.le_of_ble_eq_true rfl, Nat.le_of_ble_eq_true rfl⟩ (Nat.le_of_ble_eq_true rfl) dX9_join_59 (fun H locs hw => ?_)
          refine k_X5_fillGaps (sh := sh) (tt := tt) (cn := σ 18 0 * σ 18 1) (σ := σ) hD (show Bd σ from hB) (show 0 ≤ sh ∧ sh ≤ 5 from by omega) (show 0 ≤ tt ∧ tt ≤ 5 from by omega) (show 0 ≤ (σ 18 0 * σ 18 1) ∧ (σ 18 0 * σ 18 1) ≤ 120 from by omega) J hw hl.1 lk_X9_179 ⟨Nat.le_of_ble_eq_true rfl, Nat.le_of_ble_eq_true rfl⟩ (Nat.le_of_ble_eq_true rfl) dX9_join_62 (fun H locs hw => ?_)
          exact fin _ _ _ _ _ _ dX9_join_65 rfl (by first | (unfold joinS; (repeat (first | rw [if_pos (by omega)] | rw [if_neg (by omega)])); exact ⟨rfl, Eqp.rf⟩) | (exfalso; omega)) hw
        · refine j_bipush J (-2) dX9_join_46 (by decide) ?_
          exact fin _ _ _ _ _ _ dX9_join_48 rfl (by first | (unfold joinS; (repeat (first | rw [if_pos (by omega)] | rw [if_neg (by omega)])); exact ⟨rfl, Eqp.rf⟩) | (exfalso; omega)) hw
    · refine j_iconst J (-1) dX9_join_22 ?_
      exact fin _ _ _ _ _ _ dX9_join_23 rfl (by first | (unfold joinS; (repeat (first | rw [if_pos (by omega)] | rw [if_neg (by omega)])); exact ⟨rfl, Eqp.rf⟩) | (exfalso; omega)) hw
theorem k_X9_join {p : Program} {l : Launch} {e : Env} {R : Room} {s : State} {m : MethodId} {args : Array Value} {below : List Frame} {meth : Method} {c : Code} {H : Heap} {locs : List Loc} {Q : State → Prop} {cc : ByteArray} {pc : Nat} {ls : Array Slot} {rest : List Value} {nL : Nat} {own : String} {D : va_G} {σ : St} {cI cZ : ClassId} {ad : Nat → Nat} {index : Nat} {sh tt : Int} (hD : ∀ τ, va_D (AD ad 45) (wsX cI ad τ)) (hB : Bd σ) (r_sh : rg sh) (r_tt : rg tt) (J : Jx p m c cc nL s args own D [(cI, .int), (cZ, .boolean)] (AD ad 45) (wsX cI ad)) (hw : jW D (AD ad 45) s.heap (wsX cI ad σ) H locs) (hsz : ls.size = nL) (hlk : Cond.methodLink own index yX9_join ∈ TBw) (hR : 5 ≤ R.frames ∧ 112 ≤ R.locals) (hroom : (rest.map fun v => v.category).sum ≤ 8) (hdg : decode cc pc = .ok (.invokevirtual index, 3)) (kk : ∀ (r : Int) (τ : St) (H1 : Heap) (locs1 : List Loc), (fun r τ => r = (joinS σ sh tt).1 ∧ Eqp τ (joinS σ sh tt).2) r τ → jW D (AD ad 45) s.heap (wsX cI ad τ) H1 locs1 → W p l e R s m args below meth c H1 locs1 0 0 Q (F0 m (pc + 3) ls (.int (I r) :: rest))) : W p l e R s m args below meth c H locs 0 0 Q (F0 m pc ls (.int (I tt) :: .int (I sh) :: .ref (ad 0) :: rest)) := 
  j_callVi J hw (c_X9_join  hD hB r_sh r_tt) hlk in_X9_join se_X9_join ini_X9 co_X9_join (n := 2) (by decide +kernel) ⟨rfl, rfl, hR.1, hR.2⟩ (j := 0) (ci := 9) rfl rfl rfl rfl hroom hsz ⟨Nat.zero_le _, Nat.zero_le _⟩ rfl hdg kk
def rm_X9_between : Room := { frames := 5, cells := 0, slots := 0, locals := 115 }
set_option maxHeartbeats 4000000 in
set_option maxRecDepth 100000 in
theorem c_X9_between {l : Launch} {D : va_G} {cI cZ : ClassId} {ad : Nat → Nat} {σ : St} {sh tt wh : Int} (hD : ∀ τ, va_D (AD ad 45) (wsX cI ad τ)) (hB : Bd σ) (r_sh : rg sh) (r_tt : rg tt) (r_wh : rg wh) : JMi l yX9_between cX9_between 4 (some .int) rm_X9_between D [(cI, .int), (cZ, .boolean)] (AD ad 45) (wsX cI ad) [.ref (ad 0), .int (I sh), .int (I tt), .int (I wh)] σ (fun r τ => r = (betweenS σ sh tt wh).1 ∧ Eqp τ (betweenS σ sh tt wh).2) := by
  refine JMi.of RX9 (by decide +kernel) rfl (Nat.le_of_ble_eq_true rfl) hD ?_
  intro p e s m args below meth c Q J fin H ls hw hl
  generalize ([] : List Loc) = locs at hw ⊢
  have hl : lv_has ls 4 [(0, .ref (ad 0)), (1, .int (I sh)), (2, .int (I tt)), (3, .int (I wh))] := hl
  have hd : Dim _ := hB.dim
  have hd1 := hd.1; have hd2 := hd.2.1; have hd3 := hd.2.2.1; have hd4 := hd.2.2.2; have hm := hd.mul
  have u_sh := r_sh; unfold rg at u_sh
  have u_tt := r_tt; unfold rg at u_tt
  have u_wh := r_wh; unfold rg at u_wh
  have bo := hB.over
  refine j_aload_n J dX9_between_0 rfl (lv_at hl 0 rfl) ?_
  refine xg_9_8 J hw lk_X9_70 dX9_between_1 ?_
  refine j_iload_n J dX9_between_4 rfl (lv_at hl 1 rfl) ?_
  refine k_X5_has (sh := sh) (σ := σ) hD (show rg sh from by unfold rg; omega) J hw hl.1 lk_X9_168 ⟨Nat.le_of_ble_eq_true rfl, Nat.le_of_ble_eq_true rfl⟩ (Nat.le_of_ble_eq_true rfl) dX9_between_5 (fun H locs hw => ?_)
  refine j_ifeqB J 31 dX9_between_8 (by decide) (fun (h_1 : ¬ (0 ≤ sh ∧ sh ≤ 5)) => ?_) (fun (h_1 : 0 ≤ sh ∧ sh ≤ 5) => ?_)
  · refine j_ldc J (-1000001) lk_X9_183 dX9_between_31 ?_
    exact fin _ _ _ _ _ _ dX9_between_33 rfl (by first | (unfold betweenS; (repeat (first | rw [if_pos (by omega)] | rw [if_neg (by omega)])); exact ⟨rfl, Eqp.rf⟩) | (exfalso; omega)) hw
  · refine j_aload_n J dX9_between_11 rfl (lv_at hl 0 rfl) ?_
    refine xg_9_8 J hw lk_X9_70 dX9_between_12 ?_
    refine j_iload_n J dX9_between_15 rfl (lv_at hl 2 rfl) ?_
    refine k_X5_has (sh := tt) (σ := σ) hD (show rg tt from by unfold rg; omega) J hw hl.1 lk_X9_168 ⟨Nat.le_of_ble_eq_true rfl, Nat.le_of_ble_eq_true rfl⟩ (Nat.le_of_ble_eq_true rfl) dX9_between_16 (fun H locs hw => ?_)
    refine j_ifeqB J 31 dX9_between_19 (by decide) (fun (h_2 : ¬ (0 ≤ tt ∧ tt ≤ 5)) => ?_) (fun (h_2 : 0 ≤ tt ∧ tt ≤ 5) => ?_)
    · refine j_ldc J (-1000001) lk_X9_183 dX9_between_31 ?_
      exact fin _ _ _ _ _ _ dX9_between_33 rfl (by first | (unfold betweenS; (repeat (first | rw [if_pos (by omega)] | rw [if_neg (by omega)])); exact ⟨rfl, Eqp.rf⟩) | (exfalso; omega)) hw
    · refine j_iload_n J dX9_between_22 rfl (lv_at hl 3 rfl) ?_
      refine j_iconst J (0) dX9_between_23 ?_
      refine j_iconst J (2) dX9_between_24 ?_
      refine k_X9_within (v := wh) (lo := 0) (hi := 2) (σ := σ) hD (show rg wh from by unfold rg; omega) (show rg 0 from by unfold rg; omega) (show rg 2 from by unfold rg; omega) J hw hl.1 lk_X9_78 ⟨Nat.le_of_ble_eq_true rfl, Nat.le_of_ble_eq_true rfl⟩ (Nat.le_of_ble_eq_true rfl) dX9_between_25 (fun H locs hw => ?_)
      refine j_ifneB J 34 dX9_between_28 (by decide) (fun (h_3 : 0 ≤ wh ∧ wh ≤ 2) => ?_) (fun (h_3 : ¬ (0 ≤ wh ∧ wh ≤ 2)) => ?_)
      · refine j_aload_n J dX9_between_34 rfl (lv_at hl 0 rfl) ?_
        refine xg_9_8 J hw lk_X9_70 dX9_between_35 ?_
        refine j_iload_n J dX9_between_38 rfl (lv_at hl 1 rfl) ?_
        refine k_X5_isMissing (sh := sh) (σ := σ) hD (show 0 ≤ sh ∧ sh ≤ 5 from by omega) (show 0 ≤ σ 17 sh ∧ σ 17 sh ≤ 1 from hB.taken _) J hw hl.1 lk_X9_173 ⟨Nat.le_of_ble_eq_true rfl, Nat.le_of_ble_eq_true rfl⟩ (Nat.le_of_ble_eq_true rfl) dX9_between_39 (fun H locs hw => ?_)
        refine j_ifneB J 56 dX9_between_42 (by decide) (fun (h_4 : σ 17 sh = 0) => ?_) (fun (h_4 : ¬ (σ 17 sh = 0)) => ?_)
        · refine j_ldc J (-1000002) lk_X9_184 dX9_between_56 ?_
          exact fin _ _ _ _ _ _ dX9_between_58 rfl (by first | (unfold betweenS; (repeat (first | rw [if_pos (by omega)] | rw [if_neg (by omega)])); exact ⟨rfl, Eqp.rf⟩) | (exfalso; omega)) hw
        · refine j_aload_n J dX9_between_45 rfl (lv_at hl 0 rfl) ?_
          refine xg_9_8 J hw lk_X9_70 dX9_between_46 ?_
          refine j_iload_n J dX9_between_49 rfl (lv_at hl 2 rfl) ?_
          refine k_X5_isMissing (sh := tt) (σ := σ) hD (show 0 ≤ tt ∧ tt ≤ 5 from by omega) (show 0 ≤ σ 17 tt ∧ σ 17 tt ≤ 1 from hB.taken _) J hw hl.1 lk_X9_173 ⟨Nat.le_of_ble_eq_true rfl, Nat.le_of_ble_eq_true rfl⟩ (Nat.le_of_ble_eq_true rfl) dX9_between_50 (fun H locs hw => ?_)
          refine j_ifeqB J 59 dX9_between_53 (by decide) (fun (h_5 : ¬ (σ 17 tt = 0)) => ?_) (fun (h_5 : σ 17 tt = 0) => ?_)
          · refine j_iload_n J dX9_between_59 rfl (lv_at hl 3 rfl) ?_
            refine j_if_ne J 80 (show rg wh by unfold rg; omega) dX9_between_60 (by decide) (fun (h_6 : ¬ wh = 0) => ?_) (fun (h_6 : wh = 0) => ?_)
            · refine j_iload_n J dX9_between_80 rfl (lv_at hl 3 rfl) ?_
              refine j_iconst J (1) dX9_between_81 ?_
              refine j_icmp_ne J 107 (show rg wh by unfold rg; omega) (by unfold rg; omega) dX9_between_82 (by decide) (fun (h_7 : ¬ wh = 1) => ?_) (fun (h_7 : wh = 1) => ?_)
              · refine j_aload_n J dX9_between_107 rfl (lv_at hl 0 rfl) ?_
                refine xg_9_8 J hw lk_X9_70 dX9_between_108 ?_
                refine j_iload_n J dX9_between_111 rfl (lv_at hl 1 rfl) ?_
                refine j_iload_n J dX9_between_112 rfl (lv_at hl 2 rfl) ?_
                refine j_aload_n J dX9_between_113 rfl (lv_at hl 0 rfl) ?_
                refine xg_9_1 J hw lk_X9_21 dX9_between_114 ?_
                refine k_X5_unknown (sh := sh) (tt := tt) (σ := σ) hD (show Bd σ from hB) (show 0 ≤ sh ∧ sh ≤ 5 from by omega) (show 0 ≤ tt ∧ tt ≤ 5 from by omega) J hw hl.1 lk_X9_192 ⟨Nat.le_of_ble_eq_true rfl, Nat.le_of_ble_eq_true rfl⟩ (Nat.le_of_ble_eq_true rfl) dX9_between_117 (fun H locs hw => ?_)
                exact fin _ _ _ _ _ _ dX9_between_120 rfl (by first | (unfold betweenS; (repeat (first | rw [if_pos (by omega)] | rw [if_neg (by omega)])); exact ⟨rfl, Eqp.rf⟩) | (exfalso; omega)) hw
              · refine j_aload_n J dX9_between_85 rfl (lv_at hl 0 rfl) ?_
                refine xg_9_8 J hw lk_X9_70 dX9_between_86 ?_
                refine j_iload_n J dX9_between_89 rfl (lv_at hl 1 rfl) ?_
                refine j_iload_n J dX9_between_90 rfl (lv_at hl 2 rfl) ?_
                refine j_aload_n J dX9_between_91 rfl (lv_at hl 0 rfl) ?_
                refine xg_9_1 J hw lk_X9_21 dX9_between_92 ?_
                refine j_aload_n J dX9_between_95 rfl (lv_at hl 0 rfl) ?_
                refine xg_9_0 J hw lk_X9_14 dX9_between_96 ?_
                refine j_iconst J (0) dX9_between_99 ?_
                refine k_X2_get (k := 0) (i := 0) (σ := σ) hD (by decide) (show 0 ≤ 0 ∧ 0 < ((5 : Nat) : Int) from by omega) J hw hl.1 lk_X9_118 ⟨Nat.le_of_ble_eq_true rfl, Nat.le_of_ble_eq_true rfl⟩ (Nat.le_of_ble_eq_true rfl) dX9_between_100 (fun H locs hw => ?_)
                refine k_X5_pay (sh := sh) (tt := tt) (ov := σ 0 0) (σ := σ) hD (show Bd σ from hB) (show 0 ≤ sh ∧ sh ≤ 5 from by omega) (show 0 ≤ tt ∧ tt ≤ 5 from by omega) (show 0 ≤ (σ 0 0) ∧ (σ 0 0) ≤ 50 from by omega) J hw hl.1 lk_X9_188 ⟨Nat.le_of_ble_eq_true rfl, Nat.le_of_ble_eq_true rfl⟩ (Nat.le_of_ble_eq_true rfl) dX9_between_103 (fun H locs hw => ?_)
                exact fin _ _ _ _ _ _ dX9_between_106 rfl (by first | (unfold betweenS; (repeat (first | rw [if_pos (by omega)] | rw [if_neg (by omega)])); exact ⟨rfl, Eqp.rf⟩) | (exfalso; omega)) hw
            · refine j_aload_n J dX9_between_63 rfl (lv_at hl 0 rfl) ?_
              refine xg_9_8 J hw lk_X9_70 dX9_between_64 ?_
              refine j_iload_n J dX9_between_67 rfl (lv_at hl 1 rfl) ?_
              refine j_iload_n J dX9_between_68 rfl (lv_at hl 2 rfl) ?_
              refine j_aload_n J dX9_between_69 rfl (lv_at hl 0 rfl) ?_
              refine xg_9_1 J hw lk_X9_21 dX9_between_70 ?_
              refine k_X1_size (σ := σ) hD  J hw hl.1 lk_X9_82 ⟨Nat.le_of_ble_eq_true rfl, Nat.le_of_ble_eq_true rfl⟩ (Nat.le_of_ble_eq_true rfl) dX9_between_73 (fun H locs hw => ?_)
              refine k_X5_volume (sh := sh) (tt := tt) (cn := σ 18 0 * σ 18 1) (σ := σ) hD (show Bd σ from hB) (show 0 ≤ sh ∧ sh ≤ 5 from by omega) (show 0 ≤ tt ∧ tt ≤ 5 from by omega) (show 0 ≤ (σ 18 0 * σ 18 1) ∧ (σ 18 0 * σ 18 1) ≤ 120 from by omega) J hw hl.1 lk_X9_185 ⟨Nat.le_of_ble_eq_true rfl, Nat.le_of_ble_eq_true rfl⟩ (Nat.le_of_ble_eq_true rfl) dX9_between_76 (fun H locs hw => ?_)
              exact fin _ _ _ _ _ _ dX9_between_79 rfl (by first | (unfold betweenS; (repeat (first | rw [if_pos (by omega)] | rw [if_neg (by omega)])); exact ⟨rfl, Eqp.rf⟩) | (exfalso; omega)) hw
          · refine j_ldc J (-1000002) lk_X9_184 dX9_between_56 ?_
            exact fin _ _ _ _ _ _ dX9_between_58 rfl (by first | (unfold betweenS; (repeat (first | rw [if_pos (by omega)] | rw [if_neg (by omega)])); exact ⟨rfl, Eqp.rf⟩) | (exfalso; omega)) hw
      · refine j_ldc J (-1000001) lk_X9_183 dX9_between_31 ?_
        exact fin _ _ _ _ _ _ dX9_between_33 rfl (by first | (unfold betweenS; (repeat (first | rw [if_pos (by omega)] | rw [if_neg (by omega)])); exact ⟨rfl, Eqp.rf⟩) | (exfalso; omega)) hw
theorem k_X9_between {p : Program} {l : Launch} {e : Env} {R : Room} {s : State} {m : MethodId} {args : Array Value} {below : List Frame} {meth : Method} {c : Code} {H : Heap} {locs : List Loc} {Q : State → Prop} {cc : ByteArray} {pc : Nat} {ls : Array Slot} {rest : List Value} {nL : Nat} {own : String} {D : va_G} {σ : St} {cI cZ : ClassId} {ad : Nat → Nat} {index : Nat} {sh tt wh : Int} (hD : ∀ τ, va_D (AD ad 45) (wsX cI ad τ)) (hB : Bd σ) (r_sh : rg sh) (r_tt : rg tt) (r_wh : rg wh) (J : Jx p m c cc nL s args own D [(cI, .int), (cZ, .boolean)] (AD ad 45) (wsX cI ad)) (hw : jW D (AD ad 45) s.heap (wsX cI ad σ) H locs) (hsz : ls.size = nL) (hlk : Cond.methodLink own index yX9_between ∈ TBw) (hR : 6 ≤ R.frames ∧ 138 ≤ R.locals) (hroom : (rest.map fun v => v.category).sum ≤ 8) (hdg : decode cc pc = .ok (.invokevirtual index, 3)) (kk : ∀ (r : Int) (τ : St) (H1 : Heap) (locs1 : List Loc), (fun r τ => r = (betweenS σ sh tt wh).1 ∧ Eqp τ (betweenS σ sh tt wh).2) r τ → jW D (AD ad 45) s.heap (wsX cI ad τ) H1 locs1 → W p l e R s m args below meth c H1 locs1 0 0 Q (F0 m (pc + 3) ls (.int (I r) :: rest))) : W p l e R s m args below meth c H locs 0 0 Q (F0 m pc ls (.int (I wh) :: .int (I tt) :: .int (I sh) :: .ref (ad 0) :: rest)) := 
  j_callVi J hw (c_X9_between  hD hB r_sh r_tt r_wh) hlk in_X9_between se_X9_between ini_X9 co_X9_between (n := 3) (by decide +kernel) ⟨rfl, rfl, hR.1, hR.2⟩ (j := 0) (ci := 9) rfl rfl rfl rfl hroom hsz ⟨Nat.zero_le _, Nat.zero_le _⟩ rfl hdg kk
def rm_X9_sounded : Room := { frames := 2, cells := 0, slots := 0, locals := 43 }
set_option maxHeartbeats 4000000 in
set_option maxRecDepth 100000 in
theorem c_X9_sounded {l : Launch} {D : va_G} {cI cZ : ClassId} {ad : Nat → Nat} {σ : St} {sh cl : Int} (hD : ∀ τ, va_D (AD ad 45) (wsX cI ad τ)) (hB : Bd σ) (r_sh : rg sh) (r_cl : rg cl) : JMi l yX9_sounded cX9_sounded 3 (some .int) rm_X9_sounded D [(cI, .int), (cZ, .boolean)] (AD ad 45) (wsX cI ad) [.ref (ad 0), .int (I sh), .int (I cl)] σ (fun r τ => r = (soundedS σ sh cl).1 ∧ Eqp τ (soundedS σ sh cl).2) := by
  refine JMi.of RX9 (by decide +kernel) rfl (Nat.le_of_ble_eq_true rfl) hD ?_
  intro p e s m args below meth c Q J fin H ls hw hl
  generalize ([] : List Loc) = locs at hw ⊢
  have hl : lv_has ls 3 [(0, .ref (ad 0)), (1, .int (I sh)), (2, .int (I cl))] := hl
  have hd : Dim _ := hB.dim
  have hd1 := hd.1; have hd2 := hd.2.1; have hd3 := hd.2.2.1; have hd4 := hd.2.2.2; have hm := hd.mul
  have u_sh := r_sh; unfold rg at u_sh
  have u_cl := r_cl; unfold rg at u_cl
  refine j_aload_n J dX9_sounded_0 rfl (lv_at hl 0 rfl) ?_
  refine xg_9_8 J hw lk_X9_70 dX9_sounded_1 ?_
  refine j_iload_n J dX9_sounded_4 rfl (lv_at hl 1 rfl) ?_
  refine k_X5_has (sh := sh) (σ := σ) hD (show rg sh from by unfold rg; omega) J hw hl.1 lk_X9_168 ⟨Nat.le_of_ble_eq_true rfl, Nat.le_of_ble_eq_true rfl⟩ (Nat.le_of_ble_eq_true rfl) dX9_sounded_5 (fun H locs hw => ?_)
  refine j_ifeqB J 22 dX9_sounded_8 (by decide) (fun (h_1 : ¬ (0 ≤ sh ∧ sh ≤ 5)) => ?_) (fun (h_1 : 0 ≤ sh ∧ sh ≤ 5) => ?_)
  · refine j_iconst J (-1) dX9_sounded_22 ?_
    exact fin _ _ _ _ _ _ dX9_sounded_23 rfl (by first | (unfold soundedS; (repeat (first | rw [if_pos (by omega)] | rw [if_neg (by omega)])); exact ⟨rfl, Eqp.rf⟩) | (exfalso; omega)) hw
  · refine j_aload_n J dX9_sounded_11 rfl (lv_at hl 0 rfl) ?_
    refine xg_9_1 J hw lk_X9_21 dX9_sounded_12 ?_
    refine j_iload_n J dX9_sounded_15 rfl (lv_at hl 2 rfl) ?_
    refine k_X1_has (cell := cl) (σ := σ) hD (show Dim σ from hd) (show rg cl from by unfold rg; omega) J hw hl.1 lk_X9_86 ⟨Nat.le_of_ble_eq_true rfl, Nat.le_of_ble_eq_true rfl⟩ (Nat.le_of_ble_eq_true rfl) dX9_sounded_16 (fun H locs hw => ?_)
    refine j_ifneB J 24 dX9_sounded_19 (by decide) (fun (h_2 : 0 ≤ cl ∧ cl ≤ σ 18 0 * σ 18 1 - 1) => ?_) (fun (h_2 : ¬ (0 ≤ cl ∧ cl ≤ σ 18 0 * σ 18 1 - 1)) => ?_)
    · refine j_aload_n J dX9_sounded_24 rfl (lv_at hl 0 rfl) ?_
      refine xg_9_8 J hw lk_X9_70 dX9_sounded_25 ?_
      refine j_iload_n J dX9_sounded_28 rfl (lv_at hl 1 rfl) ?_
      refine k_X5_isMissing (sh := sh) (σ := σ) hD (show 0 ≤ sh ∧ sh ≤ 5 from by omega) (show 0 ≤ σ 17 sh ∧ σ 17 sh ≤ 1 from hB.taken _) J hw hl.1 lk_X9_173 ⟨Nat.le_of_ble_eq_true rfl, Nat.le_of_ble_eq_true rfl⟩ (Nat.le_of_ble_eq_true rfl) dX9_sounded_29 (fun H locs hw => ?_)
      refine j_ifeqB J 40 dX9_sounded_32 (by decide) (fun (h_3 : ¬ (σ 17 sh = 0)) => ?_) (fun (h_3 : σ 17 sh = 0) => ?_)
      · refine j_aload_n J dX9_sounded_40 rfl (lv_at hl 0 rfl) ?_
        refine xg_9_8 J hw lk_X9_70 dX9_sounded_41 ?_
        refine j_iload_n J dX9_sounded_44 rfl (lv_at hl 1 rfl) ?_
        refine j_iload_n J dX9_sounded_45 rfl (lv_at hl 2 rfl) ?_
        refine k_X5_read (sh := sh) (cl := cl) (σ := σ) hD (show 0 ≤ sh ∧ sh ≤ 5 from by omega) (show 0 ≤ cl ∧ cl < 120 from by omega) J hw hl.1 lk_X9_196 ⟨Nat.le_of_ble_eq_true rfl, Nat.le_of_ble_eq_true rfl⟩ (Nat.le_of_ble_eq_true rfl) dX9_sounded_46 (fun H locs hw => ?_)
        exact fin _ _ _ _ _ _ dX9_sounded_49 rfl (by first | (unfold soundedS; (repeat (first | rw [if_pos (by omega)] | rw [if_neg (by omega)])); exact ⟨rfl, Eqp.rf⟩) | (exfalso; omega)) hw
      · refine j_bipush J (-2) dX9_sounded_35 (by decide) ?_
        refine j_goto J 49 dX9_sounded_37 (by decide) ?_
        exact fin _ _ _ _ _ _ dX9_sounded_49 rfl (by first | (unfold soundedS; (repeat (first | rw [if_pos (by omega)] | rw [if_neg (by omega)])); exact ⟨rfl, Eqp.rf⟩) | (exfalso; omega)) hw
    · refine j_iconst J (-1) dX9_sounded_22 ?_
      exact fin _ _ _ _ _ _ dX9_sounded_23 rfl (by first | (unfold soundedS; (repeat (first | rw [if_pos (by omega)] | rw [if_neg (by omega)])); exact ⟨rfl, Eqp.rf⟩) | (exfalso; omega)) hw
theorem k_X9_sounded {p : Program} {l : Launch} {e : Env} {R : Room} {s : State} {m : MethodId} {args : Array Value} {below : List Frame} {meth : Method} {c : Code} {H : Heap} {locs : List Loc} {Q : State → Prop} {cc : ByteArray} {pc : Nat} {ls : Array Slot} {rest : List Value} {nL : Nat} {own : String} {D : va_G} {σ : St} {cI cZ : ClassId} {ad : Nat → Nat} {index : Nat} {sh cl : Int} (hD : ∀ τ, va_D (AD ad 45) (wsX cI ad τ)) (hB : Bd σ) (r_sh : rg sh) (r_cl : rg cl) (J : Jx p m c cc nL s args own D [(cI, .int), (cZ, .boolean)] (AD ad 45) (wsX cI ad)) (hw : jW D (AD ad 45) s.heap (wsX cI ad σ) H locs) (hsz : ls.size = nL) (hlk : Cond.methodLink own index yX9_sounded ∈ TBw) (hR : 3 ≤ R.frames ∧ 65 ≤ R.locals) (hroom : (rest.map fun v => v.category).sum ≤ 8) (hdg : decode cc pc = .ok (.invokevirtual index, 3)) (kk : ∀ (r : Int) (τ : St) (H1 : Heap) (locs1 : List Loc), (fun r τ => r = (soundedS σ sh cl).1 ∧ Eqp τ (soundedS σ sh cl).2) r τ → jW D (AD ad 45) s.heap (wsX cI ad τ) H1 locs1 → W p l e R s m args below meth c H1 locs1 0 0 Q (F0 m (pc + 3) ls (.int (I r) :: rest))) : W p l e R s m args below meth c H locs 0 0 Q (F0 m pc ls (.int (I cl) :: .int (I sh) :: .ref (ad 0) :: rest)) := 
  j_callVi J hw (c_X9_sounded  hD hB r_sh r_cl) hlk in_X9_sounded se_X9_sounded ini_X9 co_X9_sounded (n := 2) (by decide +kernel) ⟨rfl, rfl, hR.1, hR.2⟩ (j := 0) (ci := 9) rfl rfl rfl rfl hroom hsz ⟨Nat.zero_le _, Nat.zero_le _⟩ rfl hdg kk
def rm_X9_cell : Room := { frames := 2, cells := 0, slots := 0, locals := 43 }
set_option maxHeartbeats 4000000 in
set_option maxRecDepth 100000 in
theorem c_X9_cell {l : Launch} {D : va_G} {cI cZ : ClassId} {ad : Nat → Nat} {σ : St} {cl wh : Int} (hD : ∀ τ, va_D (AD ad 45) (wsX cI ad τ)) (hB : Bd σ) (r_cl : rg cl) (r_wh : rg wh) : JMi l yX9_cell cX9_cell 3 (some .int) rm_X9_cell D [(cI, .int), (cZ, .boolean)] (AD ad 45) (wsX cI ad) [.ref (ad 0), .int (I cl), .int (I wh)] σ (fun r τ => r = (cellS σ cl wh).1 ∧ Eqp τ (cellS σ cl wh).2) := by
  refine JMi.of RX9 (by decide +kernel) rfl (Nat.le_of_ble_eq_true rfl) hD ?_
  intro p e s m args below meth c Q J fin H ls hw hl
  generalize ([] : List Loc) = locs at hw ⊢
  have hl : lv_has ls 3 [(0, .ref (ad 0)), (1, .int (I cl)), (2, .int (I wh))] := hl
  have hd : Dim _ := hB.dim
  have hd1 := hd.1; have hd2 := hd.2.1; have hd3 := hd.2.2.1; have hd4 := hd.2.2.2; have hm := hd.mul
  have u_cl := r_cl; unfold rg at u_cl
  have u_wh := r_wh; unfold rg at u_wh
  refine j_aload_n J dX9_cell_0 rfl (lv_at hl 0 rfl) ?_
  refine xg_9_1 J hw lk_X9_21 dX9_cell_1 ?_
  refine j_iload_n J dX9_cell_4 rfl (lv_at hl 1 rfl) ?_
  refine k_X1_has (cell := cl) (σ := σ) hD (show Dim σ from hd) (show rg cl from by unfold rg; omega) J hw hl.1 lk_X9_86 ⟨Nat.le_of_ble_eq_true rfl, Nat.le_of_ble_eq_true rfl⟩ (Nat.le_of_ble_eq_true rfl) dX9_cell_5 (fun H locs hw => ?_)
  refine j_ifneB J 13 dX9_cell_8 (by decide) (fun (h_1 : 0 ≤ cl ∧ cl ≤ σ 18 0 * σ 18 1 - 1) => ?_) (fun (h_1 : ¬ (0 ≤ cl ∧ cl ≤ σ 18 0 * σ 18 1 - 1)) => ?_)
  · refine j_iload_n J dX9_cell_13 rfl (lv_at hl 2 rfl) ?_
    rcases (show wh = 0 ∨ wh = 1 ∨ wh = 2 ∨ wh = 3 ∨ (wh < 0 ∨ 3 < wh) by omega) with hsw | hsw | hsw | hsw | hsw
    · refine j_tableIn J 0 44 hsw (by unfold rg; omega) dX9_cell_14 (by decide) (by decide) rfl (by decide) ?_
      refine j_aload_n J dX9_cell_44 rfl (lv_at hl 0 rfl) ?_
      refine xg_9_1 J hw lk_X9_21 dX9_cell_45 ?_
      refine xg_1_0 J hw lk_X9_90 dX9_cell_48 ?_
      refine j_iload_n J dX9_cell_51 rfl (lv_at hl 1 rfl) ?_
      refine k_X2_get (k := 1) (i := cl) (σ := σ) hD (by decide) (show 0 ≤ cl ∧ cl < ((120 : Nat) : Int) from by omega) J hw hl.1 lk_X9_118 ⟨Nat.le_of_ble_eq_true rfl, Nat.le_of_ble_eq_true rfl⟩ (Nat.le_of_ble_eq_true rfl) dX9_cell_52 (fun H locs hw => ?_)
      exact fin _ _ _ _ _ _ dX9_cell_55 rfl (by first | (unfold cellS; (repeat (first | rw [if_pos (by omega)] | rw [if_neg (by omega)])); exact ⟨rfl, Eqp.rf⟩) | (exfalso; omega)) hw
    · refine j_tableIn J 1 56 hsw (by unfold rg; omega) dX9_cell_14 (by decide) (by decide) rfl (by decide) ?_
      refine j_aload_n J dX9_cell_56 rfl (lv_at hl 0 rfl) ?_
      refine xg_9_1 J hw lk_X9_21 dX9_cell_57 ?_
      refine xg_1_1 J hw lk_X9_97 dX9_cell_60 ?_
      refine j_iload_n J dX9_cell_63 rfl (lv_at hl 1 rfl) ?_
      refine k_X2_get (k := 2) (i := cl) (σ := σ) hD (by decide) (show 0 ≤ cl ∧ cl < ((120 : Nat) : Int) from by omega) J hw hl.1 lk_X9_118 ⟨Nat.le_of_ble_eq_true rfl, Nat.le_of_ble_eq_true rfl⟩ (Nat.le_of_ble_eq_true rfl) dX9_cell_64 (fun H locs hw => ?_)
      exact fin _ _ _ _ _ _ dX9_cell_67 rfl (by first | (unfold cellS; (repeat (first | rw [if_pos (by omega)] | rw [if_neg (by omega)])); exact ⟨rfl, Eqp.rf⟩) | (exfalso; omega)) hw
    · refine j_tableIn J 2 68 hsw (by unfold rg; omega) dX9_cell_14 (by decide) (by decide) rfl (by decide) ?_
      refine j_aload_n J dX9_cell_68 rfl (lv_at hl 0 rfl) ?_
      refine xg_9_2 J hw lk_X9_28 dX9_cell_69 ?_
      refine xg_0_0 J hw lk_X9_199 dX9_cell_72 ?_
      refine j_iload_n J dX9_cell_75 rfl (lv_at hl 1 rfl) ?_
      refine k_X2_get (k := 4) (i := cl) (σ := σ) hD (by decide) (show 0 ≤ cl ∧ cl < ((120 : Nat) : Int) from by omega) J hw hl.1 lk_X9_118 ⟨Nat.le_of_ble_eq_true rfl, Nat.le_of_ble_eq_true rfl⟩ (Nat.le_of_ble_eq_true rfl) dX9_cell_76 (fun H locs hw => ?_)
      exact fin _ _ _ _ _ _ dX9_cell_79 rfl (by first | (unfold cellS; (repeat (first | rw [if_pos (by omega)] | rw [if_neg (by omega)])); exact ⟨rfl, Eqp.rf⟩) | (exfalso; omega)) hw
    · refine j_tableIn J 3 80 hsw (by unfold rg; omega) dX9_cell_14 (by decide) (by decide) rfl (by decide) ?_
      refine j_aload_n J dX9_cell_80 rfl (lv_at hl 0 rfl) ?_
      refine xg_9_2 J hw lk_X9_28 dX9_cell_81 ?_
      refine xg_0_1 J hw lk_X9_202 dX9_cell_84 ?_
      refine j_iload_n J dX9_cell_87 rfl (lv_at hl 1 rfl) ?_
      refine k_X2_get (k := 5) (i := cl) (σ := σ) hD (by decide) (show 0 ≤ cl ∧ cl < ((120 : Nat) : Int) from by omega) J hw hl.1 lk_X9_118 ⟨Nat.le_of_ble_eq_true rfl, Nat.le_of_ble_eq_true rfl⟩ (Nat.le_of_ble_eq_true rfl) dX9_cell_88 (fun H locs hw => ?_)
      exact fin _ _ _ _ _ _ dX9_cell_91 rfl (by first | (unfold cellS; (repeat (first | rw [if_pos (by omega)] | rw [if_neg (by omega)])); exact ⟨rfl, Eqp.rf⟩) | (exfalso; omega)) hw
    · refine j_tableOut J 92 (show rg wh by unfold rg; omega) dX9_cell_14 hsw (by decide) ?_
      refine j_iconst J (-1) dX9_cell_92 ?_
      exact fin _ _ _ _ _ _ dX9_cell_93 rfl (by first | (unfold cellS; (repeat (first | rw [if_pos (by omega)] | rw [if_neg (by omega)])); exact ⟨rfl, Eqp.rf⟩) | (exfalso; omega)) hw
  · refine j_iconst J (-1) dX9_cell_11 ?_
    exact fin _ _ _ _ _ _ dX9_cell_12 rfl (by first | (unfold cellS; (repeat (first | rw [if_pos (by omega)] | rw [if_neg (by omega)])); exact ⟨rfl, Eqp.rf⟩) | (exfalso; omega)) hw
theorem k_X9_cell {p : Program} {l : Launch} {e : Env} {R : Room} {s : State} {m : MethodId} {args : Array Value} {below : List Frame} {meth : Method} {c : Code} {H : Heap} {locs : List Loc} {Q : State → Prop} {cc : ByteArray} {pc : Nat} {ls : Array Slot} {rest : List Value} {nL : Nat} {own : String} {D : va_G} {σ : St} {cI cZ : ClassId} {ad : Nat → Nat} {index : Nat} {cl wh : Int} (hD : ∀ τ, va_D (AD ad 45) (wsX cI ad τ)) (hB : Bd σ) (r_cl : rg cl) (r_wh : rg wh) (J : Jx p m c cc nL s args own D [(cI, .int), (cZ, .boolean)] (AD ad 45) (wsX cI ad)) (hw : jW D (AD ad 45) s.heap (wsX cI ad σ) H locs) (hsz : ls.size = nL) (hlk : Cond.methodLink own index yX9_cell ∈ TBw) (hR : 3 ≤ R.frames ∧ 65 ≤ R.locals) (hroom : (rest.map fun v => v.category).sum ≤ 8) (hdg : decode cc pc = .ok (.invokevirtual index, 3)) (kk : ∀ (r : Int) (τ : St) (H1 : Heap) (locs1 : List Loc), (fun r τ => r = (cellS σ cl wh).1 ∧ Eqp τ (cellS σ cl wh).2) r τ → jW D (AD ad 45) s.heap (wsX cI ad τ) H1 locs1 → W p l e R s m args below meth c H1 locs1 0 0 Q (F0 m (pc + 3) ls (.int (I r) :: rest))) : W p l e R s m args below meth c H locs 0 0 Q (F0 m pc ls (.int (I wh) :: .int (I cl) :: .ref (ad 0) :: rest)) := 
  j_callVi J hw (c_X9_cell  hD hB r_cl r_wh) hlk in_X9_cell se_X9_cell ini_X9 co_X9_cell (n := 2) (by decide +kernel) ⟨rfl, rfl, hR.1, hR.2⟩ (j := 0) (ci := 9) rfl rfl rfl rfl hroom hsz ⟨Nat.zero_le _, Nat.zero_le _⟩ rfl hdg kk
def rm_X9_about : Room := { frames := 2, cells := 0, slots := 0, locals := 43 }
set_option maxHeartbeats 4000000 in
set_option maxRecDepth 100000 in
theorem c_X9_about {l : Launch} {D : va_G} {cI cZ : ClassId} {ad : Nat → Nat} {σ : St} {sp wh : Int} (hD : ∀ τ, va_D (AD ad 45) (wsX cI ad τ)) (hB : Bd σ) (r_sp : rg sp) (r_wh : rg wh) : JMi l yX9_about cX9_about 3 (some .int) rm_X9_about D [(cI, .int), (cZ, .boolean)] (AD ad 45) (wsX cI ad) [.ref (ad 0), .int (I sp), .int (I wh)] σ (fun r τ => r = (aboutS σ sp wh).1 ∧ Eqp τ (aboutS σ sp wh).2) := by
  refine JMi.of RX9 (by decide +kernel) rfl (Nat.le_of_ble_eq_true rfl) hD ?_
  intro p e s m args below meth c Q J fin H ls hw hl
  generalize ([] : List Loc) = locs at hw ⊢
  have hl : lv_has ls 3 [(0, .ref (ad 0)), (1, .int (I sp)), (2, .int (I wh))] := hl
  have hd : Dim _ := hB.dim
  have hd1 := hd.1; have hd2 := hd.2.1; have hd3 := hd.2.2.1; have hd4 := hd.2.2.2; have hm := hd.mul
  have u_sp := r_sp; unfold rg at u_sp
  have u_wh := r_wh; unfold rg at u_wh
  refine j_aload_n J dX9_about_0 rfl (lv_at hl 0 rfl) ?_
  refine xg_9_6 J hw lk_X9_56 dX9_about_1 ?_
  refine j_iload_n J dX9_about_4 rfl (lv_at hl 1 rfl) ?_
  refine k_X7_has (sp := sp) (σ := σ) hD (show rg sp from by unfold rg; omega) J hw hl.1 lk_X9_113 ⟨Nat.le_of_ble_eq_true rfl, Nat.le_of_ble_eq_true rfl⟩ (Nat.le_of_ble_eq_true rfl) dX9_about_5 (fun H locs hw => ?_)
  refine j_ifneB J 13 dX9_about_8 (by decide) (fun (h_1 : 0 ≤ sp ∧ sp ≤ 2) => ?_) (fun (h_1 : ¬ (0 ≤ sp ∧ sp ≤ 2)) => ?_)
  · refine j_iload_n J dX9_about_13 rfl (lv_at hl 2 rfl) ?_
    rcases (show wh = 0 ∨ wh = 1 ∨ wh = 2 ∨ (wh < 0 ∨ 2 < wh) by omega) with hsw | hsw | hsw | hsw
    · refine j_tableIn J 0 40 hsw (by unfold rg; omega) dX9_about_14 (by decide) (by decide) rfl (by decide) ?_
      refine j_aload_n J dX9_about_40 rfl (lv_at hl 0 rfl) ?_
      refine xg_9_6 J hw lk_X9_56 dX9_about_41 ?_
      refine xg_7_0 J hw lk_X9_115 dX9_about_44 ?_
      refine j_iload_n J dX9_about_47 rfl (lv_at hl 1 rfl) ?_
      refine k_X2_get (k := 10) (i := sp) (σ := σ) hD (by decide) (show 0 ≤ sp ∧ sp < ((3 : Nat) : Int) from by omega) J hw hl.1 lk_X9_118 ⟨Nat.le_of_ble_eq_true rfl, Nat.le_of_ble_eq_true rfl⟩ (Nat.le_of_ble_eq_true rfl) dX9_about_48 (fun H locs hw => ?_)
      exact fin _ _ _ _ _ _ dX9_about_51 rfl (by first | (unfold aboutS; (repeat (first | rw [if_pos (by omega)] | rw [if_neg (by omega)])); exact ⟨rfl, Eqp.rf⟩) | (exfalso; omega)) hw
    · refine j_tableIn J 1 52 hsw (by unfold rg; omega) dX9_about_14 (by decide) (by decide) rfl (by decide) ?_
      refine j_aload_n J dX9_about_52 rfl (lv_at hl 0 rfl) ?_
      refine xg_9_6 J hw lk_X9_56 dX9_about_53 ?_
      refine xg_7_1 J hw lk_X9_121 dX9_about_56 ?_
      refine j_iload_n J dX9_about_59 rfl (lv_at hl 1 rfl) ?_
      refine k_X2_get (k := 11) (i := sp) (σ := σ) hD (by decide) (show 0 ≤ sp ∧ sp < ((3 : Nat) : Int) from by omega) J hw hl.1 lk_X9_118 ⟨Nat.le_of_ble_eq_true rfl, Nat.le_of_ble_eq_true rfl⟩ (Nat.le_of_ble_eq_true rfl) dX9_about_60 (fun H locs hw => ?_)
      exact fin _ _ _ _ _ _ dX9_about_63 rfl (by first | (unfold aboutS; (repeat (first | rw [if_pos (by omega)] | rw [if_neg (by omega)])); exact ⟨rfl, Eqp.rf⟩) | (exfalso; omega)) hw
    · refine j_tableIn J 2 64 hsw (by unfold rg; omega) dX9_about_14 (by decide) (by decide) rfl (by decide) ?_
      refine j_aload_n J dX9_about_64 rfl (lv_at hl 0 rfl) ?_
      refine xg_9_6 J hw lk_X9_56 dX9_about_65 ?_
      refine xg_7_2 J hw lk_X9_124 dX9_about_68 ?_
      refine j_iload_n J dX9_about_71 rfl (lv_at hl 1 rfl) ?_
      refine k_X2_get (k := 12) (i := sp) (σ := σ) hD (by decide) (show 0 ≤ sp ∧ sp < ((3 : Nat) : Int) from by omega) J hw hl.1 lk_X9_118 ⟨Nat.le_of_ble_eq_true rfl, Nat.le_of_ble_eq_true rfl⟩ (Nat.le_of_ble_eq_true rfl) dX9_about_72 (fun H locs hw => ?_)
      exact fin _ _ _ _ _ _ dX9_about_75 rfl (by first | (unfold aboutS; (repeat (first | rw [if_pos (by omega)] | rw [if_neg (by omega)])); exact ⟨rfl, Eqp.rf⟩) | (exfalso; omega)) hw
    · refine j_tableOut J 76 (show rg wh by unfold rg; omega) dX9_about_14 hsw (by decide) ?_
      refine j_iconst J (-1) dX9_about_76 ?_
      exact fin _ _ _ _ _ _ dX9_about_77 rfl (by first | (unfold aboutS; (repeat (first | rw [if_pos (by omega)] | rw [if_neg (by omega)])); exact ⟨rfl, Eqp.rf⟩) | (exfalso; omega)) hw
  · refine j_iconst J (-1) dX9_about_11 ?_
    exact fin _ _ _ _ _ _ dX9_about_12 rfl (by first | (unfold aboutS; (repeat (first | rw [if_pos (by omega)] | rw [if_neg (by omega)])); exact ⟨rfl, Eqp.rf⟩) | (exfalso; omega)) hw
theorem k_X9_about {p : Program} {l : Launch} {e : Env} {R : Room} {s : State} {m : MethodId} {args : Array Value} {below : List Frame} {meth : Method} {c : Code} {H : Heap} {locs : List Loc} {Q : State → Prop} {cc : ByteArray} {pc : Nat} {ls : Array Slot} {rest : List Value} {nL : Nat} {own : String} {D : va_G} {σ : St} {cI cZ : ClassId} {ad : Nat → Nat} {index : Nat} {sp wh : Int} (hD : ∀ τ, va_D (AD ad 45) (wsX cI ad τ)) (hB : Bd σ) (r_sp : rg sp) (r_wh : rg wh) (J : Jx p m c cc nL s args own D [(cI, .int), (cZ, .boolean)] (AD ad 45) (wsX cI ad)) (hw : jW D (AD ad 45) s.heap (wsX cI ad σ) H locs) (hsz : ls.size = nL) (hlk : Cond.methodLink own index yX9_about ∈ TBw) (hR : 3 ≤ R.frames ∧ 65 ≤ R.locals) (hroom : (rest.map fun v => v.category).sum ≤ 8) (hdg : decode cc pc = .ok (.invokevirtual index, 3)) (kk : ∀ (r : Int) (τ : St) (H1 : Heap) (locs1 : List Loc), (fun r τ => r = (aboutS σ sp wh).1 ∧ Eqp τ (aboutS σ sp wh).2) r τ → jW D (AD ad 45) s.heap (wsX cI ad τ) H1 locs1 → W p l e R s m args below meth c H1 locs1 0 0 Q (F0 m (pc + 3) ls (.int (I r) :: rest))) : W p l e R s m args below meth c H locs 0 0 Q (F0 m pc ls (.int (I wh) :: .int (I sp) :: .ref (ad 0) :: rest)) := 
  j_callVi J hw (c_X9_about  hD hB r_sp r_wh) hlk in_X9_about se_X9_about ini_X9 co_X9_about (n := 2) (by decide +kernel) ⟨rfl, rfl, hR.1, hR.2⟩ (j := 0) (ci := 9) rfl rfl rfl rfl hroom hsz ⟨Nat.zero_le _, Nat.zero_le _⟩ rfl hdg kk
def rm_X9_broken : Room := { frames := 2, cells := 0, slots := 0, locals := 43 }
set_option maxHeartbeats 4000000 in
set_option maxRecDepth 100000 in
theorem c_X9_broken {l : Launch} {D : va_G} {cI cZ : ClassId} {ad : Nat → Nat} {σ : St} {q : Int} (hD : ∀ τ, va_D (AD ad 45) (wsX cI ad τ)) (hB : Bd σ) (r_q : rg q) : JMi l yX9_broken cX9_broken 2 (some .int) rm_X9_broken D [(cI, .int), (cZ, .boolean)] (AD ad 45) (wsX cI ad) [.ref (ad 0), .int (I q)] σ (fun r τ => r = (brokenS σ q).1 ∧ Eqp τ (brokenS σ q).2) := by
  refine JMi.of RX9 (by decide +kernel) rfl (Nat.le_of_ble_eq_true rfl) hD ?_
  intro p e s m args below meth c Q J fin H ls hw hl
  generalize ([] : List Loc) = locs at hw ⊢
  have hl : lv_has ls 2 [(0, .ref (ad 0)), (1, .int (I q))] := hl
  have hd : Dim _ := hB.dim
  have hd1 := hd.1; have hd2 := hd.2.1; have hd3 := hd.2.2.1; have hd4 := hd.2.2.2; have hm := hd.mul
  have u_q := r_q; unfold rg at u_q
  have hq := hB.posts
  refine j_aload_n J dX9_broken_0 rfl (lv_at hl 0 rfl) ?_
  refine xg_9_7 J hw lk_X9_63 dX9_broken_1 ?_
  refine j_iload_n J dX9_broken_4 rfl (lv_at hl 1 rfl) ?_
  refine k_X4_has (po := q) (σ := σ) hD (show 0 ≤ σ 18 6 ∧ σ 18 6 ≤ 8 from hB.posts) (show rg q from by unfold rg; omega) J hw hl.1 lk_X9_205 ⟨Nat.le_of_ble_eq_true rfl, Nat.le_of_ble_eq_true rfl⟩ (Nat.le_of_ble_eq_true rfl) dX9_broken_5 (fun H locs hw => ?_)
  refine j_ifeqB J 25 dX9_broken_8 (by decide) (fun (h_1 : ¬ (0 ≤ q ∧ q ≤ σ 18 6 - 1)) => ?_) (fun (h_1 : 0 ≤ q ∧ q ≤ σ 18 6 - 1) => ?_)
  · refine j_iconst J (-1) dX9_broken_25 ?_
    exact fin _ _ _ _ _ _ dX9_broken_26 rfl (by first | (unfold brokenS; (repeat (first | rw [if_pos (by omega)] | rw [if_neg (by omega)])); exact ⟨rfl, Eqp.rf⟩) | (exfalso; omega)) hw
  · refine j_aload_n J dX9_broken_11 rfl (lv_at hl 0 rfl) ?_
    refine xg_9_7 J hw lk_X9_63 dX9_broken_12 ?_
    refine xg_4_2 J hw lk_X9_206 dX9_broken_15 ?_
    refine j_iload_n J dX9_broken_18 rfl (lv_at hl 1 rfl) ?_
    refine k_X2_get (k := 15) (i := q) (σ := σ) hD (by decide) (show 0 ≤ q ∧ q < ((8 : Nat) : Int) from by omega) J hw hl.1 lk_X9_118 ⟨Nat.le_of_ble_eq_true rfl, Nat.le_of_ble_eq_true rfl⟩ (Nat.le_of_ble_eq_true rfl) dX9_broken_19 (fun H locs hw => ?_)
    refine j_goto J 26 dX9_broken_22 (by decide) ?_
    exact fin _ _ _ _ _ _ dX9_broken_26 rfl (by first | (unfold brokenS; (repeat (first | rw [if_pos (by omega)] | rw [if_neg (by omega)])); exact ⟨rfl, Eqp.rf⟩) | (exfalso; omega)) hw
theorem k_X9_broken {p : Program} {l : Launch} {e : Env} {R : Room} {s : State} {m : MethodId} {args : Array Value} {below : List Frame} {meth : Method} {c : Code} {H : Heap} {locs : List Loc} {Q : State → Prop} {cc : ByteArray} {pc : Nat} {ls : Array Slot} {rest : List Value} {nL : Nat} {own : String} {D : va_G} {σ : St} {cI cZ : ClassId} {ad : Nat → Nat} {index : Nat} {q : Int} (hD : ∀ τ, va_D (AD ad 45) (wsX cI ad τ)) (hB : Bd σ) (r_q : rg q) (J : Jx p m c cc nL s args own D [(cI, .int), (cZ, .boolean)] (AD ad 45) (wsX cI ad)) (hw : jW D (AD ad 45) s.heap (wsX cI ad σ) H locs) (hsz : ls.size = nL) (hlk : Cond.methodLink own index yX9_broken ∈ TBw) (hR : 3 ≤ R.frames ∧ 64 ≤ R.locals) (hroom : (rest.map fun v => v.category).sum ≤ 8) (hdg : decode cc pc = .ok (.invokevirtual index, 3)) (kk : ∀ (r : Int) (τ : St) (H1 : Heap) (locs1 : List Loc), (fun r τ => r = (brokenS σ q).1 ∧ Eqp τ (brokenS σ q).2) r τ → jW D (AD ad 45) s.heap (wsX cI ad τ) H1 locs1 → W p l e R s m args below meth c H1 locs1 0 0 Q (F0 m (pc + 3) ls (.int (I r) :: rest))) : W p l e R s m args below meth c H locs 0 0 Q (F0 m pc ls (.int (I q) :: .ref (ad 0) :: rest)) := 
  j_callVi J hw (c_X9_broken  hD hB r_q) hlk in_X9_broken se_X9_broken ini_X9 co_X9_broken (n := 1) (by decide +kernel) ⟨rfl, rfl, hR.1, hR.2⟩ (j := 0) (ci := 9) rfl rfl rfl rfl hroom hsz ⟨Nat.zero_le _, Nat.zero_le _⟩ rfl hdg kk
def rm_X9_count : Room := { frames := 2, cells := 0, slots := 0, locals := 43 }
set_option maxHeartbeats 4000000 in
set_option maxRecDepth 100000 in
theorem c_X9_count {l : Launch} {D : va_G} {cI cZ : ClassId} {ad : Nat → Nat} {σ : St} {wh : Int} (hD : ∀ τ, va_D (AD ad 45) (wsX cI ad τ)) (hB : Bd σ) (r_wh : rg wh) : JMi l yX9_count cX9_count 2 (some .int) rm_X9_count D [(cI, .int), (cZ, .boolean)] (AD ad 45) (wsX cI ad) [.ref (ad 0), .int (I wh)] σ (fun r τ => r = (countS σ wh).1 ∧ Eqp τ (countS σ wh).2) := by
  refine JMi.of RX9 (by decide +kernel) rfl (Nat.le_of_ble_eq_true rfl) hD ?_
  intro p e s m args below meth c Q J fin H ls hw hl
  generalize ([] : List Loc) = locs at hw ⊢
  have hl : lv_has ls 2 [(0, .ref (ad 0)), (1, .int (I wh))] := hl
  have hd : Dim _ := hB.dim
  have hd1 := hd.1; have hd2 := hd.2.1; have hd3 := hd.2.2.1; have hd4 := hd.2.2.2; have hm := hd.mul
  have u_wh := r_wh; unfold rg at u_wh
  refine j_iload_n J dX9_count_0 rfl (lv_at hl 1 rfl) ?_
  rcases (show wh = 0 ∨ wh = 1 ∨ wh = 2 ∨ wh = 3 ∨ wh = 4 ∨ wh = 5 ∨ wh = 6 ∨ wh = 7 ∨ wh = 8 ∨ wh = 9 ∨ wh = 10 ∨ (wh < 0 ∨ 10 < wh) by omega) with hsw | hsw | hsw | hsw | hsw | hsw | hsw | hsw | hsw | hsw | hsw | hsw
  · refine j_tableIn J 0 60 hsw (by unfold rg; omega) dX9_count_1 (by decide) (by decide) rfl (by decide) ?_
    refine j_aload_n J dX9_count_60 rfl (lv_at hl 0 rfl) ?_
    refine xg_9_1 J hw lk_X9_21 dX9_count_61 ?_
    refine xg_1_3 J hw lk_X9_209 dX9_count_64 ?_
    exact fin _ _ _ _ _ _ dX9_count_67 rfl (by first | (unfold countS; (repeat (first | rw [if_pos (by omega)] | rw [if_neg (by omega)])); exact ⟨rfl, Eqp.rf⟩) | (exfalso; omega)) hw
  · refine j_tableIn J 1 68 hsw (by unfold rg; omega) dX9_count_1 (by decide) (by decide) rfl (by decide) ?_
    refine j_aload_n J dX9_count_68 rfl (lv_at hl 0 rfl) ?_
    refine xg_9_1 J hw lk_X9_21 dX9_count_69 ?_
    refine xg_1_4 J hw lk_X9_212 dX9_count_72 ?_
    exact fin _ _ _ _ _ _ dX9_count_75 rfl (by first | (unfold countS; (repeat (first | rw [if_pos (by omega)] | rw [if_neg (by omega)])); exact ⟨rfl, Eqp.rf⟩) | (exfalso; omega)) hw
  · refine j_tableIn J 2 76 hsw (by unfold rg; omega) dX9_count_1 (by decide) (by decide) rfl (by decide) ?_
    refine j_aload_n J dX9_count_76 rfl (lv_at hl 0 rfl) ?_
    refine xg_9_9 J hw lk_X9_162 dX9_count_77 ?_
    exact fin _ _ _ _ _ _ dX9_count_80 rfl (by first | (unfold countS; (repeat (first | rw [if_pos (by omega)] | rw [if_neg (by omega)])); exact ⟨rfl, Eqp.rf⟩) | (exfalso; omega)) hw
  · refine j_tableIn J 3 81 hsw (by unfold rg; omega) dX9_count_1 (by decide) (by decide) rfl (by decide) ?_
    refine j_aload_n J dX9_count_81 rfl (lv_at hl 0 rfl) ?_
    refine xg_9_10 J hw lk_X9_215 dX9_count_82 ?_
    exact fin _ _ _ _ _ _ dX9_count_85 rfl (by first | (unfold countS; (repeat (first | rw [if_pos (by omega)] | rw [if_neg (by omega)])); exact ⟨rfl, Eqp.rf⟩) | (exfalso; omega)) hw
  · refine j_tableIn J 4 86 hsw (by unfold rg; omega) dX9_count_1 (by decide) (by decide) rfl (by decide) ?_
    refine j_aload_n J dX9_count_86 rfl (lv_at hl 0 rfl) ?_
    refine xg_9_11 J hw lk_X9_218 dX9_count_87 ?_
    exact fin _ _ _ _ _ _ dX9_count_90 rfl (by first | (unfold countS; (repeat (first | rw [if_pos (by omega)] | rw [if_neg (by omega)])); exact ⟨rfl, Eqp.rf⟩) | (exfalso; omega)) hw
  · refine j_tableIn J 5 91 hsw (by unfold rg; omega) dX9_count_1 (by decide) (by decide) rfl (by decide) ?_
    refine j_aload_n J dX9_count_91 rfl (lv_at hl 0 rfl) ?_
    refine xg_9_2 J hw lk_X9_28 dX9_count_92 ?_
    refine xg_0_3 J hw lk_X9_221 dX9_count_95 ?_
    exact fin _ _ _ _ _ _ dX9_count_98 rfl (by first | (unfold countS; (repeat (first | rw [if_pos (by omega)] | rw [if_neg (by omega)])); exact ⟨rfl, Eqp.rf⟩) | (exfalso; omega)) hw
  · refine j_tableIn J 6 99 hsw (by unfold rg; omega) dX9_count_1 (by decide) (by decide) rfl (by decide) ?_
    refine j_aload_n J dX9_count_99 rfl (lv_at hl 0 rfl) ?_
    refine xg_9_2 J hw lk_X9_28 dX9_count_100 ?_
    refine xg_0_4 J hw lk_X9_224 dX9_count_103 ?_
    exact fin _ _ _ _ _ _ dX9_count_106 rfl (by first | (unfold countS; (repeat (first | rw [if_pos (by omega)] | rw [if_neg (by omega)])); exact ⟨rfl, Eqp.rf⟩) | (exfalso; omega)) hw
  · refine j_tableIn J 7 107 hsw (by unfold rg; omega) dX9_count_1 (by decide) (by decide) rfl (by decide) ?_
    refine j_aload_n J dX9_count_107 rfl (lv_at hl 0 rfl) ?_
    refine xg_9_2 J hw lk_X9_28 dX9_count_108 ?_
    refine xg_0_5 J hw lk_X9_227 dX9_count_111 ?_
    exact fin _ _ _ _ _ _ dX9_count_114 rfl (by first | (unfold countS; (repeat (first | rw [if_pos (by omega)] | rw [if_neg (by omega)])); exact ⟨rfl, Eqp.rf⟩) | (exfalso; omega)) hw
  · refine j_tableIn J 8 115 hsw (by unfold rg; omega) dX9_count_1 (by decide) (by decide) rfl (by decide) ?_
    refine j_aload_n J dX9_count_115 rfl (lv_at hl 0 rfl) ?_
    refine xg_9_1 J hw lk_X9_21 dX9_count_116 ?_
    refine xg_1_5 J hw lk_X9_230 dX9_count_119 ?_
    exact fin _ _ _ _ _ _ dX9_count_122 rfl (by first | (unfold countS; (repeat (first | rw [if_pos (by omega)] | rw [if_neg (by omega)])); exact ⟨rfl, Eqp.rf⟩) | (exfalso; omega)) hw
  · refine j_tableIn J 9 123 hsw (by unfold rg; omega) dX9_count_1 (by decide) (by decide) rfl (by decide) ?_
    refine j_aload_n J dX9_count_123 rfl (lv_at hl 0 rfl) ?_
    refine xg_9_1 J hw lk_X9_21 dX9_count_124 ?_
    refine k_X1_unfinished (σ := σ) hD (show Bd σ from hB) J hw hl.1 lk_X9_233 ⟨Nat.le_of_ble_eq_true rfl, Nat.le_of_ble_eq_true rfl⟩ (Nat.le_of_ble_eq_true rfl) dX9_count_127 (fun H locs hw => ?_)
    exact fin _ _ _ _ _ _ dX9_count_130 rfl (by first | (unfold countS; (repeat (first | rw [if_pos (by omega)] | rw [if_neg (by omega)])); exact ⟨rfl, Eqp.rf⟩) | (exfalso; omega)) hw
  · refine j_tableIn J 10 131 hsw (by unfold rg; omega) dX9_count_1 (by decide) (by decide) rfl (by decide) ?_
    refine j_aload_n J dX9_count_131 rfl (lv_at hl 0 rfl) ?_
    refine xg_9_7 J hw lk_X9_63 dX9_count_132 ?_
    refine xg_4_3 J hw lk_X9_236 dX9_count_135 ?_
    exact fin _ _ _ _ _ _ dX9_count_138 rfl (by first | (unfold countS; (repeat (first | rw [if_pos (by omega)] | rw [if_neg (by omega)])); exact ⟨rfl, Eqp.rf⟩) | (exfalso; omega)) hw
  · refine j_tableOut J 139 (show rg wh by unfold rg; omega) dX9_count_1 hsw (by decide) ?_
    refine j_iconst J (-1) dX9_count_139 ?_
    exact fin _ _ _ _ _ _ dX9_count_140 rfl (by first | (unfold countS; (repeat (first | rw [if_pos (by omega)] | rw [if_neg (by omega)])); exact ⟨rfl, Eqp.rf⟩) | (exfalso; omega)) hw
theorem k_X9_count {p : Program} {l : Launch} {e : Env} {R : Room} {s : State} {m : MethodId} {args : Array Value} {below : List Frame} {meth : Method} {c : Code} {H : Heap} {locs : List Loc} {Q : State → Prop} {cc : ByteArray} {pc : Nat} {ls : Array Slot} {rest : List Value} {nL : Nat} {own : String} {D : va_G} {σ : St} {cI cZ : ClassId} {ad : Nat → Nat} {index : Nat} {wh : Int} (hD : ∀ τ, va_D (AD ad 45) (wsX cI ad τ)) (hB : Bd σ) (r_wh : rg wh) (J : Jx p m c cc nL s args own D [(cI, .int), (cZ, .boolean)] (AD ad 45) (wsX cI ad)) (hw : jW D (AD ad 45) s.heap (wsX cI ad σ) H locs) (hsz : ls.size = nL) (hlk : Cond.methodLink own index yX9_count ∈ TBw) (hR : 3 ≤ R.frames ∧ 64 ≤ R.locals) (hroom : (rest.map fun v => v.category).sum ≤ 8) (hdg : decode cc pc = .ok (.invokevirtual index, 3)) (kk : ∀ (r : Int) (τ : St) (H1 : Heap) (locs1 : List Loc), (fun r τ => r = (countS σ wh).1 ∧ Eqp τ (countS σ wh).2) r τ → jW D (AD ad 45) s.heap (wsX cI ad τ) H1 locs1 → W p l e R s m args below meth c H1 locs1 0 0 Q (F0 m (pc + 3) ls (.int (I r) :: rest))) : W p l e R s m args below meth c H locs 0 0 Q (F0 m pc ls (.int (I wh) :: .ref (ad 0) :: rest)) := 
  j_callVi J hw (c_X9_count  hD hB r_wh) hlk in_X9_count se_X9_count ini_X9 co_X9_count (n := 1) (by decide +kernel) ⟨rfl, rfl, hR.1, hR.2⟩ (j := 0) (ci := 9) rfl rfl rfl rfl hroom hsz ⟨Nat.zero_le _, Nat.zero_le _⟩ rfl hdg kk
