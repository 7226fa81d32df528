/-! what is not scratch; loops of states; the digging's plan -/
def pub (k : Nat) (i : Int) : Prop := k ≠ 3 ∧ k ≠ 6 ∧ k ≠ 9 ∧ ¬ (k = 18 ∧ 10 ≤ i)
def Eqp (τ σ : St) : Prop := ∀ (k : Nat) (i : Int), pub k i → τ k i = σ k i
theorem Eqp.rf {σ : St} : Eqp σ σ := fun _ _ _ => rfl
theorem Eqp.tr {a b c : St} (h : Eqp a b) (h2 : Eqp b c) : Eqp a c := fun k i hp => (h k i hp).trans (h2 k i hp)
theorem Eqp.sym {a b : St} (h : Eqp a b) : Eqp b a := fun k i hp => (h k i hp).symm
theorem pub_k {k : Nat} {i : Int} (h3 : k ≠ 3) (h6 : k ≠ 6) (h9 : k ≠ 9) (h18 : k ≠ 18) : pub k i := ⟨h3, h6, h9, fun h => h18 h.1⟩
theorem pub_s {i : Int} (h : i < 10) : pub 18 i := ⟨by decide, by decide, by decide, by omega⟩
theorem Eqp.st {τ σ : St} {k : Nat} {i v : Int} (h : Eqp τ σ) (hk : ¬ pub k i) : Eqp (st τ k i v) σ := by
  intro k2 i2 hp
  show (if k2 = k ∧ i2 = i then v else τ k2 i2) = σ k2 i2
  rw [if_neg (by rintro ⟨rfl, rfl⟩; exact hk hp)]
  exact h k2 i2 hp
theorem npub9 {i : Int} : ¬ pub 9 i := fun h => h.2.2.1 rfl
theorem npub6 {i : Int} : ¬ pub 6 i := fun h => h.2.1 rfl
theorem npub3 {i : Int} : ¬ pub 3 i := fun h => h.1 rfl
theorem npubS {i : Int} (hi : 10 ≤ i) : ¬ pub 18 i := fun h => h.2.2.2 ⟨rfl, hi⟩
theorem Eqp.fl {τ σ : St} {k : Nat} {n v : Int} (h : Eqp τ σ) (hk : ∀ i, ¬ pub k i) : Eqp (fl τ k v n) σ := by
  intro k2 i2 hp
  show (if k2 = k ∧ 0 ≤ i2 ∧ i2 < n then v else τ k2 i2) = σ k2 i2
  rw [if_neg (by rintro ⟨rfl, _⟩; exact hk _ hp)]
  exact h k2 i2 hp
theorem Dim.eqp {τ σ : St} (h : Eqp τ σ) (hd : Dim σ) : Dim τ := by
  unfold Dim at hd ⊢
  rw [h 18 0 (pub_s (by decide)), h 18 1 (pub_s (by decide))]
  exact hd
theorem Bd.eqp {τ σ : St} (h : Eqp τ σ) (hB : Bd σ) : Bd τ := by
  have e : ∀ k i, k ≠ 3 → k ≠ 6 → k ≠ 9 → k ≠ 18 → τ k i = σ k i := fun k i h3 h6 h9 h18 => h k i (pub_k h3 h6 h9 h18)
  have e0 : ∀ i, τ 0 i = σ 0 i := fun i => e 0 i (by decide) (by decide) (by decide) (by decide)
  have e1 : ∀ i, τ 1 i = σ 1 i := fun i => e 1 i (by decide) (by decide) (by decide) (by decide)
  have e2 : ∀ i, τ 2 i = σ 2 i := fun i => e 2 i (by decide) (by decide) (by decide) (by decide)
  have e4 : ∀ i, τ 4 i = σ 4 i := fun i => e 4 i (by decide) (by decide) (by decide) (by decide)
  have e5 : ∀ i, τ 5 i = σ 5 i := fun i => e 5 i (by decide) (by decide) (by decide) (by decide)
  have e7 : ∀ i, τ 7 i = σ 7 i := fun i => e 7 i (by decide) (by decide) (by decide) (by decide)
  have e8 : ∀ i, τ 8 i = σ 8 i := fun i => e 8 i (by decide) (by decide) (by decide) (by decide)
  have e10 : ∀ i, τ 10 i = σ 10 i := fun i => e 10 i (by decide) (by decide) (by decide) (by decide)
  have e11 : ∀ i, τ 11 i = σ 11 i := fun i => e 11 i (by decide) (by decide) (by decide) (by decide)
  have e12 : ∀ i, τ 12 i = σ 12 i := fun i => e 12 i (by decide) (by decide) (by decide) (by decide)
  have e13 : ∀ i, τ 13 i = σ 13 i := fun i => e 13 i (by decide) (by decide) (by decide) (by decide)
  have e14 : ∀ i, τ 14 i = σ 14 i := fun i => e 14 i (by decide) (by decide) (by decide) (by decide)
  have e16 : ∀ i, τ 16 i = σ 16 i := fun i => e 16 i (by decide) (by decide) (by decide) (by decide)
  have e17 : ∀ i, τ 17 i = σ 17 i := fun i => e 17 i (by decide) (by decide) (by decide) (by decide)
  have s0 : τ 18 0 = σ 18 0 := h 18 0 (pub_s (by decide))
  have s1 : τ 18 1 = σ 18 1 := h 18 1 (pub_s (by decide))
  have s6 : τ 18 6 = σ 18 6 := h 18 6 (pub_s (by decide))
  have s7 : τ 18 7 = σ 18 7 := h 18 7 (pub_s (by decide))
  have s8 : τ 18 8 = σ 18 8 := h 18 8 (pub_s (by decide))
  unfold Bd Dim at hB ⊢
  simp only [e0, e1, e2, e4, e5, e7, e8, e10, e11, e12, e13, e14, e16, e17, s0, s1, s6, s7, s8]
  exact hB
def itN (f : Int → St → St) (σ : St) : Nat → St
  | 0 => σ
  | n + 1 => f n (itN f σ n)
def itI (f : Int → St → St) (σ : St) (n : Int) : St := itN f σ n.toNat
theorem itI_0 {f : Int → St → St} {σ : St} : itI f σ 0 = σ := rfl
theorem itI_step {f : Int → St → St} {σ : St} {n : Int} (h : 0 ≤ n) : itI f σ (n + 1) = f n (itI f σ n) := by
  obtain ⟨k, rfl⟩ := Int.eq_ofNat_of_zero_le h
  rfl
theorem itI_ind {f : Int → St → St} {σ : St} (P : Int → St → Prop) {n : Int} (hn : 0 ≤ n) (h0 : P 0 σ) (hs : ∀ i τ, 0 ≤ i → i < n → P i τ → P (i + 1) (f i τ)) : P n (itI f σ n) := by
  obtain ⟨k, rfl⟩ := Int.eq_ofNat_of_zero_le hn
  have key : ∀ j : Nat, j ≤ k → P j (itN f σ j) := by
    intro j
    induction j with
    | zero => intro _; exact h0
    | succ j ih => intro hj; exact hs j _ (by omega) (by omega) (ih (by omega))
  exact key k (Nat.le_refl k)
/-- room of a column's cell in the row of the plan -/
def rmS (τ : St) (ov x : Int) : Int := if τ 2 (τ 18 10 * τ 18 0 + x) = 0 then 0 else max 0 (τ 2 (τ 18 10 * τ 18 0 + x) + ov - τ 1 (τ 18 10 * τ 18 0 + x))
def pcS (τ : St) (ov x : Int) : St := if τ 9 x < rmS τ ov x then st (st (st τ 9 x (τ 9 x + 1)) 18 11 (τ 18 11 + 1)) 18 12 (τ 18 10 * τ 18 0 + x) else τ
def rnF (a s w ov : Int) : Int → St → St := fun i τ => if τ 18 11 < w then pcS τ ov (a + i * s) else τ
def rn (σ : St) (a s w ov n : Int) : St := itI (rnF a s w ov) σ n
def absI (z : Int) : Int := if 0 ≤ z then z else -z
def rnS (σ : St) (a b w ov : Int) : St := rn σ a (if a ≤ b then 1 else -1) w ov (absI (b - a) + 1)
def rd (σ : St) (a b w ov n : Int) : St := itI (fun _ τ => rnS τ a b w ov) σ n
def p0S (σ : St) (row a : Int) : St := st (st (st (fl σ 9 0 12) 18 10 row) 18 11 0) 18 12 (row * σ 18 0 + a)
theorem rms_rng {τ : St} {ov x : Int} (hB : Bd τ) (ho : 0 ≤ ov ∧ ov ≤ 50) : 0 ≤ rmS τ ov x ∧ rmS τ ov x ≤ 350 := by
  unfold rmS
  have b1 := hB.depth (τ 18 10 * τ 18 0 + x); have b2 := hB.design (τ 18 10 * τ 18 0 + x)
  split <;> omega
/-- what a plan keeps -/
def PlI (σ τ : St) : Prop := Eqp τ σ ∧ τ 18 10 = σ 18 10 ∧ (∀ x, 0 ≤ x → x < 12 → 0 ≤ τ 9 x ∧ τ 9 x ≤ 350) ∧ σ 18 11 ≤ τ 18 11 ∧ τ 18 11 ≤ 200 ∧ (τ = σ ∨ σ 18 11 < τ 18 11)
theorem pcS_facts {σ τ : St} {ov x w : Int} (hB : Bd σ) (ho : 0 ≤ ov ∧ ov ≤ 50) (hw : w ≤ 200) (hl : τ 18 11 < w) (h : PlI σ τ) : PlI σ (pcS τ ov x) := by
  obtain ⟨h1, h2, h3, h4, h5, h6⟩ := h
  unfold pcS
  split
  · rename_i hc
    have hr := rms_rng (x := x) (hB.eqp h1) ho
    refine ⟨((h1.st npub9).st (npubS (by decide))).st (npubS (by decide)), h2, fun y hy0 hy => ?_, ?_, ?_, Or.inr ?_⟩
    · show 0 ≤ (if 9 = 9 ∧ y = x then τ 9 x + 1 else τ 9 y) ∧ (if 9 = 9 ∧ y = x then τ 9 x + 1 else τ 9 y) ≤ 350
      by_cases e : y = x
      · subst e
        have := h3 y hy0 hy
        rw [if_pos ⟨rfl, rfl⟩]
        omega
      · rw [if_neg (fun q => e q.2)]
        exact h3 y hy0 hy
    · show σ 18 11 ≤ τ 18 11 + 1
      omega
    · show τ 18 11 + 1 ≤ 200
      omega
    · show σ 18 11 < τ 18 11 + 1
      omega
  · exact ⟨h1, h2, h3, h4, h5, h6⟩
theorem rn_facts {σ : St} {a s w ov n : Int} (hB : Bd σ) (ho : 0 ≤ ov ∧ ov ≤ 50) (hw : w ≤ 200) (hn : 0 ≤ n) (hp : ∀ x, 0 ≤ x → x < 12 → 0 ≤ σ 9 x ∧ σ 9 x ≤ 350) (hl : σ 18 11 ≤ 200) : PlI σ (rn σ a s w ov n) := by
  refine itI_ind (fun _ τ => PlI σ τ) hn ⟨Eqp.rf, rfl, hp, by omega, hl, Or.inl rfl⟩ (fun i τ _ _ h => ?_)
  show PlI σ (if τ 18 11 < w then pcS τ ov (a + i * s) else τ)
  split
  · exact pcS_facts hB ho hw (by assumption) h
  · exact h
theorem rn_step {σ : St} {a s w ov n : Int} (h : 0 ≤ n) (hl : rn σ a s w ov n 18 11 < w) : pcS (rn σ a s w ov n) ov (a + n * s) = rn σ a s w ov (n + 1) := by
  show _ = itI (rnF a s w ov) σ (n + 1)
  rw [itI_step h]
  exact (if_pos hl).symm
theorem rn_stop {σ : St} {a s w ov n k : Int} (h : 0 ≤ n) (hk : n ≤ k) (hl : w ≤ rn σ a s w ov n 18 11) : rn σ a s w ov n = rn σ a s w ov k := by
  obtain ⟨j, rfl⟩ : ∃ j : Nat, k = n + j := ⟨(k - n).toNat, by omega⟩
  have key : ∀ j : Nat, rn σ a s w ov n = rn σ a s w ov (n + j) := by
    intro j
    induction j with
    | zero => exact congrArg (rn σ a s w ov) (by omega)
    | succ j ih =>
      rw [show n + ((j + 1 : Nat) : Int) = n + j + 1 by omega]
      show _ = itI (rnF a s w ov) σ (n + j + 1)
      rw [itI_step (by omega)]
      show _ = rnF a s w ov (n + j) (rn σ a s w ov (n + j))
      rw [← ih]
      exact (if_neg (by omega)).symm
  exact key j
theorem absI_rng {z : Int} (h : -11 ≤ z ∧ z ≤ 11) : 0 ≤ absI z ∧ absI z ≤ 11 := by unfold absI; split <;> omega
theorem rnS_facts {σ : St} {a b w ov : Int} (hB : Bd σ) (ho : 0 ≤ ov ∧ ov ≤ 50) (hw : w ≤ 200) (hab : -11 ≤ b - a ∧ b - a ≤ 11) (hp : ∀ x, 0 ≤ x → x < 12 → 0 ≤ σ 9 x ∧ σ 9 x ≤ 350) (hl : σ 18 11 ≤ 200) : PlI σ (rnS σ a b w ov) := rn_facts hB ho hw (by have := absI_rng hab; omega) hp hl
def RdI (σ τ : St) : Prop := Eqp τ σ ∧ τ 18 10 = σ 18 10 ∧ (∀ x, 0 ≤ x → x < 12 → 0 ≤ τ 9 x ∧ τ 9 x ≤ 350) ∧ σ 18 11 ≤ τ 18 11 ∧ τ 18 11 ≤ 200
theorem rd_facts {σ : St} {a b w ov n : Int} (hB : Bd σ) (ho : 0 ≤ ov ∧ ov ≤ 50) (hw : w ≤ 200) (hab : -11 ≤ b - a ∧ b - a ≤ 11) (hn : 0 ≤ n) (hp : ∀ x, 0 ≤ x → x < 12 → 0 ≤ σ 9 x ∧ σ 9 x ≤ 350) (hl : σ 18 11 ≤ 200) : RdI σ (rd σ a b w ov n) := by
  refine itI_ind (fun _ τ => RdI σ τ) hn ⟨Eqp.rf, rfl, hp, by omega, hl⟩ (fun i τ _ _ h => ?_)
  obtain ⟨h1, h2, h3, h4, h5⟩ := h
  obtain ⟨g1, g2, g3, g4, g5, -⟩ := rnS_facts (a := a) (b := b) (hB.eqp h1) ho hw hab h3 h5
  exact ⟨g1.tr h1, g2.trans h2, g3, by omega, g5⟩
theorem rd_stop {σ : St} {a b w ov n k : Int} (h : 0 ≤ n) (hk : n ≤ k) (hs : rnS (rd σ a b w ov n) a b w ov = rd σ a b w ov n) : rd σ a b w ov n = rd σ a b w ov k := by
  obtain ⟨j, rfl⟩ : ∃ j : Nat, k = n + j := ⟨(k - n).toNat, by omega⟩
  have key : ∀ j : Nat, rd σ a b w ov n = rd σ a b w ov (n + j) := by
    intro j
    induction j with
    | zero => exact congrArg (rd σ a b w ov) (by omega)
    | succ j ih =>
      rw [show n + ((j + 1 : Nat) : Int) = n + j + 1 by omega]
      show _ = itI (fun _ τ => rnS τ a b w ov) σ (n + j + 1)
      rw [itI_step (by omega)]
      show _ = rnS (rd σ a b w ov (n + j)) a b w ov
      rw [← ih, hs]
  exact key j
theorem rd_step {σ : St} {a b w ov n : Int} (h : 0 ≤ n) : rnS (rd σ a b w ov n) a b w ov = rd σ a b w ov (n + 1) := (itI_step (f := fun _ τ => rnS τ a b w ov) h).symm
def dpS (σ : St) (n : Int) : St := fun k i => if k = 1 ∧ σ 18 10 * σ 18 0 ≤ i ∧ i < σ 18 10 * σ 18 0 + n then σ 1 i + σ 9 (i - σ 18 10 * σ 18 0) else σ k i
theorem dpS_0 {σ : St} : dpS σ 0 = σ := by
  funext k i
  unfold dpS
  rw [if_neg (by omega)]
theorem dpS_step {σ : St} {n : Int} (h : 0 ≤ n) : st (dpS σ n) 1 (σ 18 10 * σ 18 0 + n) (dpS σ n 1 (σ 18 10 * σ 18 0 + n) + σ 9 n) = dpS σ (n + 1) := by
  funext k i
  unfold st
  by_cases h1 : k = 1 ∧ i = σ 18 10 * σ 18 0 + n
  · rw [if_pos h1]; unfold dpS; rw [if_neg (by omega), if_pos (by omega), h1.2, show σ 18 10 * σ 18 0 + n - σ 18 10 * σ 18 0 = n by omega]
  · rw [if_neg h1]; unfold dpS
    by_cases h3 : k = 1 ∧ σ 18 10 * σ 18 0 ≤ i ∧ i < σ 18 10 * σ 18 0 + n
    · rw [if_pos h3, if_pos (by omega)]
    · rw [if_neg h3, if_neg (by omega)]
theorem absI_or (z : Int) : (0 ≤ z ∧ absI z = z) ∨ (z < 0 ∧ absI z = -z) := by
  unfold absI
  split <;> omega
theorem p0_eqp {σ : St} {row a : Int} : Eqp (p0S σ row a) σ := (((Eqp.rf.fl (fun _ => npub9)).st (npubS (by decide))).st (npubS (by decide))).st (npubS (by decide))
theorem p0_hp {σ : St} {row a : Int} : ∀ x, 0 ≤ x → x < 12 → 0 ≤ p0S σ row a 9 x ∧ p0S σ row a 9 x ≤ 350 := by
  intro x h0 h
  show 0 ≤ (if 9 = 9 ∧ 0 ≤ x ∧ x < 12 then (0 : Int) else σ 9 x) ∧ (if 9 = 9 ∧ 0 ≤ x ∧ x < 12 then (0 : Int) else σ 9 x) ≤ 350
  rw [if_pos ⟨rfl, h0, h⟩]
  omega
def rm_X3_planCell : Room := { frames := 2, cells := 0, slots := 0, locals := 45 }
set_option maxHeartbeats 4000000 in
set_option maxRecDepth 100000 in
theorem c_X3_planCell {l : Launch} {D : va_G} {cI cZ : ClassId} {ad : Nat → Nat} {σ : St} {x ov : Int} (hD : ∀ τ, va_D (AD ad 45) (wsX cI ad τ)) (hB : Bd σ) (hr : 0 ≤ σ 18 10 ∧ σ 18 10 < σ 18 1) (ho : 0 ≤ ov ∧ ov ≤ 50) (hx : 0 ≤ x ∧ x < σ 18 0) (hp : 0 ≤ σ 9 x ∧ σ 9 x ≤ 350) : JMv l yX3_planCell cX3_planCell 5 rm_X3_planCell D [(cI, .int), (cZ, .boolean)] (AD ad 45) (wsX cI ad) [.ref (ad 5), .ref (ad 1), .int (I x), .int (I ov)] σ (fun τ => τ = pcS σ ov x) := by
  refine JMv.of RX3 (by decide +kernel) rfl (Nat.le_of_ble_eq_true rfl) hD ?_
  intro p e s m args below meth c Q J fin H ls hw hl
  generalize ([] : List Loc) = locs at hw ⊢
  have hl : lv_has ls 5 [(0, .ref (ad 5)), (1, .ref (ad 1)), (2, .int (I x)), (3, .int (I ov))] := hl
  have hd : Dim _ := hB.dim
  have hd1 := hd.1; have hd2 := hd.2.1; have hd3 := hd.2.2.1; have hd4 := hd.2.2.2; have hm := hd.mul
  have hci := cell_in hr.1 hr.2 hx.1 hx.2
  have hrm := rms_rng (x := x) hB ho
  refine j_aload_n J dX3_planCell_0 rfl (lv_at hl 1 rfl) ?_
  refine j_aload_n J dX3_planCell_1 rfl (lv_at hl 0 rfl) ?_
  refine xg_3_1 J hw lk_X3_23 dX3_planCell_2 ?_
  refine j_iload_n J dX3_planCell_5 rfl (lv_at hl 2 rfl) ?_
  refine k_X1_number (row := σ 18 10) (col := x) hD  J hw hl.1 lk_X3_30 ⟨Nat.le_of_ble_eq_true rfl, Nat.le_of_ble_eq_true rfl⟩ (Nat.le_of_ble_eq_true rfl) dX3_planCell_6 (fun H locs hw => ?_)
  refine j_istore J (lv' := [(4, .int (I ((σ 18 10) * σ 18 0 + x))), (0, .ref (ad 5)), (1, .ref (ad 1)), (2, .int (I x)), (3, .int (I ov))]) hl dX3_planCell_9 (by decide) rfl (fun ls hl => ?_)
  refine j_aload_n J dX3_planCell_11 rfl (lv_at hl 1 rfl) ?_
  refine xg_3_0 J hw lk_X3_14 dX3_planCell_12 ?_
  refine j_iload_n J dX3_planCell_15 rfl (lv_at hl 3 rfl) ?_
  refine k_X2_get (k := 9) (i := x) hD (by decide) (show 0 ≤ x ∧ x < ((12 : Nat) : Int) from by omega) J hw hl.1 lk_X3_53 ⟨Nat.le_of_ble_eq_true rfl, Nat.le_of_ble_eq_true rfl⟩ (Nat.le_of_ble_eq_true rfl) dX3_planCell_16 (fun H locs hw => ?_)
  refine j_aload_n J dX3_planCell_19 rfl (lv_at hl 2 rfl) ?_
  refine j_iload J dX3_planCell_20 (lv_at hl 0 rfl) ?_
  refine j_iload_n J dX3_planCell_22 rfl (lv_at hl 4 rfl) ?_
  refine k_X1_room (cell := (σ 18 10) * σ 18 0 + x) (over := ov) hD (hB) (by omega) (by omega) J hw hl.1 lk_X3_56 ⟨Nat.le_of_ble_eq_true rfl, Nat.le_of_ble_eq_true rfl⟩ (Nat.le_of_ble_eq_true rfl) dX3_planCell_23 (fun H locs hw => ?_)
  refine j_icmp_lt J 30 (show rg (σ 9 x) by unfold rg; omega) (show rg (rmS σ ov x) by unfold rg; omega) dX3_planCell_26 (by decide) (fun (h_1 : (σ 9 x) < (rmS σ ov x)) => ?_) (fun (h_1 : (rmS σ ov x) ≤ (σ 9 x)) => ?_)
  · refine j_aload_n J dX3_planCell_30 rfl (lv_at hl 1 rfl) ?_
    refine xg_3_0 J hw lk_X3_14 dX3_planCell_31 ?_
    refine j_iload_n J dX3_planCell_34 rfl (lv_at hl 3 rfl) ?_
    refine j_iconst J (1) dX3_planCell_35 ?_
    refine k_X2_add (k := 9) (i := x) (v := 1) hD (by decide) (show 0 ≤ x ∧ x < ((12 : Nat) : Int) from by omega) J hw hl.1 lk_X3_59 ⟨Nat.le_of_ble_eq_true rfl, Nat.le_of_ble_eq_true rfl⟩ (Nat.le_of_ble_eq_true rfl) dX3_planCell_36 (fun H locs hw => ?_)
    refine j_aload_n J dX3_planCell_39 rfl (lv_at hl 1 rfl) ?_
    refine j_dup J dX3_planCell_40 rfl ?_
    refine xg_3_2 J hw lk_X3_27 dX3_planCell_41 ?_
    refine j_iconst J (1) dX3_planCell_44 ?_
    refine j_iadd J dX3_planCell_45 ?_
    refine xs_3_2 J hw lk_X3_27 dX3_planCell_46 (fun H locs hw => ?_)
    refine j_aload_n J dX3_planCell_49 rfl (lv_at hl 1 rfl) ?_
    refine j_iload J dX3_planCell_50 (lv_at hl 0 rfl) ?_
    refine xs_3_3 J hw lk_X3_36 dX3_planCell_52 (fun H locs hw => ?_)
    exact fin _ _ _ _ _ dX3_planCell_55 ((if_pos (by assumption)).symm) hw
  · exact fin _ _ _ _ _ dX3_planCell_29 ((if_neg (by omega)).symm) hw
theorem k_X3_planCell {p : Program} {l : Launch} {e : Env} {R : Room} {s : State} {m : MethodId} {args : Array Value} {below : List Frame} {meth : Method} {c : Code} {H : Heap} {locs : List Loc} {Q : State → Prop} {cc : ByteArray} {pc : Nat} {ls : Array Slot} {rest : List Value} {nL : Nat} {own : String} {D : va_G} {σ : St} {cI cZ : ClassId} {ad : Nat → Nat} {index : Nat} {x ov : Int} (hD : ∀ τ, va_D (AD ad 45) (wsX cI ad τ)) (hB : Bd σ) (hr : 0 ≤ σ 18 10 ∧ σ 18 10 < σ 18 1) (ho : 0 ≤ ov ∧ ov ≤ 50) (hx : 0 ≤ x ∧ x < σ 18 0) (hp : 0 ≤ σ 9 x ∧ σ 9 x ≤ 350) (J : Jx p m c cc nL s args own D [(cI, .int), (cZ, .boolean)] (AD ad 45) (wsX cI ad)) (hw : jW D (AD ad 45) s.heap (wsX cI ad σ) H locs) (hsz : ls.size = nL) (hlk : Cond.methodLink own index yX3_planCell ∈ TBw) (hR : 3 ≤ R.frames ∧ 69 ≤ R.locals) (hroom : (rest.map fun v => v.category).sum ≤ 8) (hdg : decode cc pc = .ok (.invokevirtual index, 3)) (kk : ∀ (H1 : Heap) (locs1 : List Loc), jW D (AD ad 45) s.heap (wsX cI ad (pcS σ ov x)) H1 locs1 → W p l e R s m args below meth c H1 locs1 0 0 Q (F0 m (pc + 3) ls rest)) : W p l e R s m args below meth c H locs 0 0 Q (F0 m pc ls (.int (I ov) :: .int (I x) :: .ref (ad 1) :: .ref (ad 5) :: rest)) := 
  j_callVv J hw (c_X3_planCell  hD hB hr ho hx hp) hlk in_X3_planCell se_X3_planCell ini_X3 co_X3_planCell (n := 3) (by decide +kernel) ⟨rfl, rfl, hR.1, hR.2⟩ (j := 5) (ci := 3) rfl rfl rfl rfl hroom hsz ⟨Nat.zero_le _, Nat.zero_le _⟩ rfl hdg (fun τ H1 locs1 hp hw1 => by subst hp; exact kk H1 locs1 hw1)
def rm_X3_planRun : Room := { frames := 3, cells := 0, slots := 0, locals := 69 }
set_option maxHeartbeats 4000000 in
set_option maxRecDepth 100000 in
theorem c_X3_planRun {l : Launch} {D : va_G} {cI cZ : ClassId} {ad : Nat → Nat} {σ : St} {a b w ov : Int} (hD : ∀ τ, va_D (AD ad 45) (wsX cI ad τ)) (hB : Bd σ) (hr : 0 ≤ σ 18 10 ∧ σ 18 10 < σ 18 1) (ho : 0 ≤ ov ∧ ov ≤ 50) (ha : 0 ≤ a ∧ a < σ 18 0) (hb : 0 ≤ b ∧ b < σ 18 0) (hw0 : 0 ≤ w ∧ w ≤ 200) (hp : ∀ x, 0 ≤ x → x < 12 → 0 ≤ σ 9 x ∧ σ 9 x ≤ 350) (hl0 : 0 ≤ σ 18 11 ∧ σ 18 11 ≤ 200) : JMi l yX3_planRun cX3_planRun 10 (some .boolean) rm_X3_planRun D [(cI, .int), (cZ, .boolean)] (AD ad 45) (wsX cI ad) [.ref (ad 5), .ref (ad 1), .int (I a), .int (I b), .int (I w), .int (I ov)] σ (fun r τ => r = (if σ 18 11 < rnS σ a b w ov 18 11 then 1 else 0) ∧ τ = rnS σ a b w ov) := by
  refine JMi.of RX3 (by decide +kernel) rfl (Nat.le_of_ble_eq_true rfl) hD ?_
  intro p e s m args below meth c Q J fin H ls hw hl
  generalize ([] : List Loc) = locs at hw ⊢
  have hl : lv_has ls 10 [(0, .ref (ad 5)), (1, .ref (ad 1)), (2, .int (I a)), (3, .int (I b)), (4, .int (I w)), (5, .int (I ov))] := hl
  have hd : Dim _ := hB.dim
  have hd1 := hd.1; have hd2 := hd.2.1; have hd3 := hd.2.2.1; have hd4 := hd.2.2.2; have hm := hd.mul
  have hab := absI_rng (z := b - a) (by omega)
  have hab2 := absI_or (b - a)
  refine j_aload_n J dX3_planRun_0 rfl (lv_at hl 0 rfl) ?_
  refine xg_3_2 J hw lk_X3_27 dX3_planRun_1 ?_
  refine j_istore J (lv' := [(6, .int (I (σ 18 11))), (0, .ref (ad 5)), (1, .ref (ad 1)), (2, .int (I a)), (3, .int (I b)), (4, .int (I w)), (5, .int (I ov))]) hl dX3_planRun_4 (by decide) rfl (fun ls hl => ?_)
  refine j_iload_n J dX3_planRun_6 rfl (lv_at hl 3 rfl) ?_
  refine j_iload_n J dX3_planRun_7 rfl (lv_at hl 4 rfl) ?_
  refine j_icmp_gt J 15 (show rg a by unfold rg; omega) (show rg b by unfold rg; omega) dX3_planRun_8 (by decide) (fun (h_1 : b < a) => ?_) (fun (h_1 : a ≤ b) => ?_)
  · refine j_iconst J (-1) dX3_planRun_15 ?_
    refine j_istore J (lv' := [(7, .int (I (-1))), (6, .int (I (σ 18 11))), (0, .ref (ad 5)), (1, .ref (ad 1)), (2, .int (I a)), (3, .int (I b)), (4, .int (I w)), (5, .int (I ov))]) hl dX3_planRun_16 (by decide) rfl (fun ls hl => ?_)
    refine j_iload_n J dX3_planRun_18 rfl (lv_at hl 5 rfl) ?_
    refine j_iload_n J dX3_planRun_19 rfl (lv_at hl 4 rfl) ?_
    refine j_isub J dX3_planRun_20 ?_
    refine j_abs J (show rg (b - a) by unfold rg; omega) hl.1 lk_X3_43 ⟨Nat.le_of_ble_eq_true rfl, Nat.le_of_ble_eq_true rfl, Nat.zero_le _, Nat.zero_le _⟩ dX3_planRun_21 ?_
    refine j_iconst J (1) dX3_planRun_24 ?_
    refine j_iadd J dX3_planRun_25 ?_
    refine j_istore J (lv' := [(8, .int (I ((absI (b - a)) + 1))), (7, .int (I (-1))), (6, .int (I (σ 18 11))), (0, .ref (ad 5)), (1, .ref (ad 1)), (2, .int (I a)), (3, .int (I b)), (4, .int (I w)), (5, .int (I ov))]) hl dX3_planRun_26 (by decide) rfl (fun ls hl => ?_)
    refine j_iconst J (0) dX3_planRun_28 ?_
    refine j_istore J (lv' := [(9, .int (I 0)), (8, .int (I ((absI (b - a)) + 1))), (7, .int (I (-1))), (6, .int (I (σ 18 11))), (0, .ref (ad 5)), (1, .ref (ad 1)), (2, .int (I a)), (3, .int (I b)), (4, .int (I w)), (5, .int (I ov))]) hl dX3_planRun_29 (by decide) rfl (fun ls hl => ?_)
    have L31 : ∀ n : Nat, ∀ (τ : St) (i : Int), (0 ≤ i ∧ i ≤ absI (b - a) + 1) → (τ = rn σ a (-1) w ov i) → ((absI (b - a) + 1 - i).toNat) < n → ∀ (H : Heap) (locs : List Loc) (ls : Array Slot), jW D (AD ad 45) s.heap (wsX cI ad τ) H locs → lv_has ls 10 [(9, .int (I i)), (0, .ref (ad 5)), (1, .ref (ad 1)), (2, .int (I a)), (3, .int (I b)), (4, .int (I w)), (5, .int (I ov)), (6, .int (I (σ 18 11))), (7, .int (I (-1))), (8, .int (I (absI (b - a) + 1)))] → W p l e rm_X3_planRun s m args below meth c H locs 0 0 Q (F0 m 31 ls []) := by
      intro n
      induction n with
      | zero =>
        intro τ i hi0 hτ hm H locs ls hw hl
        exact absurd hm (Nat.not_lt_zero _)
      | succ n ih =>
        intro τ i hi0 hτ hm H locs ls hw hl
        have ih31 := ih
        have hf := rn_facts (σ := σ) (a := a) (s := (-1)) (w := w) (ov := ov) (n := i) hB ho hw0.2 hi0.1 hp hl0.2
        rw [← hτ] at hf
        have hBt := hB.eqp hf.1
        have q0 : τ 18 0 = σ 18 0 := hf.1 18 0 (pub_s (by decide))
        have q1 : τ 18 1 = σ 18 1 := hf.1 18 1 (pub_s (by decide))
        have q2 := hf.2.1
        have q3 := hf.2.2.2.1
        have q4 := hf.2.2.2.2.1
        refine j_iload J dX3_planRun_31 (lv_at hl 0 rfl) ?_
        refine j_iload J dX3_planRun_33 (lv_at hl 9 rfl) ?_
        refine j_icmp_ge J 67 (show rg i by unfold rg; omega) (show rg (absI (b - a) + 1) by unfold rg; omega) dX3_planRun_35 (by decide) (fun (h_2 : (absI (b - a) + 1) ≤ i) => ?_) (fun (h_2 : i < (absI (b - a) + 1)) => ?_)
        · have hfin : τ = rnS σ a b w ov := by (unfold rnS; (first | rw [if_pos (show a ≤ b by omega)] | rw [if_neg (show ¬ a ≤ b by omega)]); (first | (rw [hτ]; exact rn_stop hi0.1 (by omega) (by rw [← hτ]; assumption)) | (rw [hτ, show i = absI (b - a) + 1 by omega])))
          refine j_aload_n J dX3_planRun_67 rfl (lv_at hl 1 rfl) ?_
          refine xg_3_2 J hw lk_X3_27 dX3_planRun_68 ?_
          refine j_iload J dX3_planRun_71 (lv_at hl 7 rfl) ?_
          refine j_icmp_le J 80 (show rg (τ 18 11) by unfold rg; omega) (show rg (σ 18 11) by unfold rg; omega) dX3_planRun_73 (by decide) (fun (h_3 : (τ 18 11) ≤ (σ 18 11)) => ?_) (fun (h_3 : (σ 18 11) < (τ 18 11)) => ?_)
          · refine j_iconst J (0) dX3_planRun_80 ?_
            exact fin _ _ _ _ _ _ dX3_planRun_81 rfl (⟨by first | exact (if_pos (by rw [← hfin]; assumption)).symm | exact (if_neg (by rw [← hfin]; omega)).symm, hfin⟩) hw
          · refine j_iconst J (1) dX3_planRun_76 ?_
            refine j_goto J 81 dX3_planRun_77 (by decide) ?_
            exact fin _ _ _ _ _ _ dX3_planRun_81 rfl (⟨by first | exact (if_pos (by rw [← hfin]; assumption)).symm | exact (if_neg (by rw [← hfin]; omega)).symm, hfin⟩) hw
        · refine j_aload_n J dX3_planRun_38 rfl (lv_at hl 1 rfl) ?_
          refine xg_3_2 J hw lk_X3_27 dX3_planRun_39 ?_
          refine j_iload J dX3_planRun_42 (lv_at hl 5 rfl) ?_
          refine j_icmp_ge J 67 (show rg (τ 18 11) by unfold rg; omega) (show rg w by unfold rg; omega) dX3_planRun_44 (by decide) (fun (h_4 : w ≤ (τ 18 11)) => ?_) (fun (h_4 : (τ 18 11) < w) => ?_)
          · have hfin : τ = rnS σ a b w ov := by (unfold rnS; (first | rw [if_pos (show a ≤ b by omega)] | rw [if_neg (show ¬ a ≤ b by omega)]); (first | (rw [hτ]; exact rn_stop hi0.1 (by omega) (by rw [← hτ]; assumption)) | (rw [hτ, show i = absI (b - a) + 1 by omega])))
            refine j_aload_n J dX3_planRun_67 rfl (lv_at hl 1 rfl) ?_
            refine xg_3_2 J hw lk_X3_27 dX3_planRun_68 ?_
            refine j_iload J dX3_planRun_71 (lv_at hl 7 rfl) ?_
            refine j_icmp_le J 80 (show rg (τ 18 11) by unfold rg; omega) (show rg (σ 18 11) by unfold rg; omega) dX3_planRun_73 (by decide) (fun (h_5 : (τ 18 11) ≤ (σ 18 11)) => ?_) (fun (h_5 : (σ 18 11) < (τ 18 11)) => ?_)
            · refine j_iconst J (0) dX3_planRun_80 ?_
              exact fin _ _ _ _ _ _ dX3_planRun_81 rfl (⟨by first | exact (if_pos (by rw [← hfin]; assumption)).symm | exact (if_neg (by rw [← hfin]; omega)).symm, hfin⟩) hw
            · refine j_iconst J (1) dX3_planRun_76 ?_
              refine j_goto J 81 dX3_planRun_77 (by decide) ?_
              exact fin _ _ _ _ _ _ dX3_planRun_81 rfl (⟨by first | exact (if_pos (by rw [← hfin]; assumption)).symm | exact (if_neg (by rw [← hfin]; omega)).symm, hfin⟩) hw
          · refine j_aload_n J dX3_planRun_47 rfl (lv_at hl 1 rfl) ?_
            refine j_aload_n J dX3_planRun_48 rfl (lv_at hl 2 rfl) ?_
            refine j_iload_n J dX3_planRun_49 rfl (lv_at hl 3 rfl) ?_
            refine j_iload J dX3_planRun_50 (lv_at hl 0 rfl) ?_
            refine j_iload J dX3_planRun_52 (lv_at hl 8 rfl) ?_
            refine j_imul J dX3_planRun_54 ?_
            refine j_iadd J dX3_planRun_55 ?_
            refine j_iload J dX3_planRun_56 (lv_at hl 6 rfl) ?_
            refine k_X3_planCell (x := a + (i * (-1))) (ov := ov) hD (hBt) (by omega) (ho) (by omega) (hf.2.2.1 _ (by omega) (by omega)) J hw hl.1 lk_X3_49 ⟨Nat.le_of_ble_eq_true rfl, Nat.le_of_ble_eq_true rfl⟩ (Nat.le_of_ble_eq_true rfl) dX3_planRun_58 (fun H locs hw => ?_)
            refine j_iinc J (lv' := [(9, .int (I (i + 1))), (0, .ref (ad 5)), (1, .ref (ad 1)), (2, .int (I a)), (3, .int (I b)), (4, .int (I w)), (5, .int (I ov)), (6, .int (I (σ 18 11))), (7, .int (I (-1))), (8, .int (I (absI (b - a) + 1)))]) (k := 0) hl dX3_planRun_61 rfl (by decide) rfl (fun ls hl => ?_)
            refine j_goto J 31 dX3_planRun_64 (by decide) ?_
            exact ih31 (pcS τ ov (a + (i * (-1)))) (i + 1) (by omega) (by rw [hτ]; exact rn_step hi0.1 (by rw [← hτ]; assumption)) (by omega) _ _ _ hw (lv_sub hl [0, 1, 2, 3, 4, 5, 6, 7, 8, 9] rfl)
    exact L31 _ σ 0 (by have := absI_rng (z := b - a) (by omega); omega) (itI_0.symm) (Nat.lt_succ_self _) _ _ _ hw (lv_sub hl [0, 4, 5, 6, 7, 8, 9, 3, 2, 1] rfl)
  · refine j_iconst J (1) dX3_planRun_11 ?_
    refine j_goto J 16 dX3_planRun_12 (by decide) ?_
    refine j_istore J (lv' := [(7, .int (I 1)), (6, .int (I (σ 18 11))), (0, .ref (ad 5)), (1, .ref (ad 1)), (2, .int (I a)), (3, .int (I b)), (4, .int (I w)), (5, .int (I ov))]) hl dX3_planRun_16 (by decide) rfl (fun ls hl => ?_)
    refine j_iload_n J dX3_planRun_18 rfl (lv_at hl 5 rfl) ?_
    refine j_iload_n J dX3_planRun_19 rfl (lv_at hl 4 rfl) ?_
    refine j_isub J dX3_planRun_20 ?_
    refine j_abs J (show rg (b - a) by unfold rg; omega) hl.1 lk_X3_43 ⟨Nat.le_of_ble_eq_true rfl, Nat.le_of_ble_eq_true rfl, Nat.zero_le _, Nat.zero_le _⟩ dX3_planRun_21 ?_
    refine j_iconst J (1) dX3_planRun_24 ?_
    refine j_iadd J dX3_planRun_25 ?_
    refine j_istore J (lv' := [(8, .int (I ((absI (b - a)) + 1))), (7, .int (I 1)), (6, .int (I (σ 18 11))), (0, .ref (ad 5)), (1, .ref (ad 1)), (2, .int (I a)), (3, .int (I b)), (4, .int (I w)), (5, .int (I ov))]) hl dX3_planRun_26 (by decide) rfl (fun ls hl => ?_)
    refine j_iconst J (0) dX3_planRun_28 ?_
    refine j_istore J (lv' := [(9, .int (I 0)), (8, .int (I ((absI (b - a)) + 1))), (7, .int (I 1)), (6, .int (I (σ 18 11))), (0, .ref (ad 5)), (1, .ref (ad 1)), (2, .int (I a)), (3, .int (I b)), (4, .int (I w)), (5, .int (I ov))]) hl dX3_planRun_29 (by decide) rfl (fun ls hl => ?_)
    have L31 : ∀ n : Nat, ∀ (τ : St) (i : Int), (0 ≤ i ∧ i ≤ absI (b - a) + 1) → (τ = rn σ a (1) w ov i) → ((absI (b - a) + 1 - i).toNat) < n → ∀ (H : Heap) (locs : List Loc) (ls : Array Slot), jW D (AD ad 45) s.heap (wsX cI ad τ) H locs → lv_has ls 10 [(9, .int (I i)), (0, .ref (ad 5)), (1, .ref (ad 1)), (2, .int (I a)), (3, .int (I b)), (4, .int (I w)), (5, .int (I ov)), (6, .int (I (σ 18 11))), (7, .int (I 1)), (8, .int (I (absI (b - a) + 1)))] → W p l e rm_X3_planRun s m args below meth c H locs 0 0 Q (F0 m 31 ls []) := by
      intro n
      induction n with
      | zero =>
        intro τ i hi0 hτ hm H locs ls hw hl
        exact absurd hm (Nat.not_lt_zero _)
      | succ n ih =>
        intro τ i hi0 hτ hm H locs ls hw hl
        have ih31 := ih
        have hf := rn_facts (σ := σ) (a := a) (s := 1) (w := w) (ov := ov) (n := i) hB ho hw0.2 hi0.1 hp hl0.2
        rw [← hτ] at hf
        have hBt := hB.eqp hf.1
        have q0 : τ 18 0 = σ 18 0 := hf.1 18 0 (pub_s (by decide))
        have q1 : τ 18 1 = σ 18 1 := hf.1 18 1 (pub_s (by decide))
        have q2 := hf.2.1
        have q3 := hf.2.2.2.1
        have q4 := hf.2.2.2.2.1
        refine j_iload J dX3_planRun_31 (lv_at hl 0 rfl) ?_
        refine j_iload J dX3_planRun_33 (lv_at hl 9 rfl) ?_
        refine j_icmp_ge J 67 (show rg i by unfold rg; omega) (show rg (absI (b - a) + 1) by unfold rg; omega) dX3_planRun_35 (by decide) (fun (h_6 : (absI (b - a) + 1) ≤ i) => ?_) (fun (h_6 : i < (absI (b - a) + 1)) => ?_)
        · have hfin : τ = rnS σ a b w ov := by (unfold rnS; (first | rw [if_pos (show a ≤ b by omega)] | rw [if_neg (show ¬ a ≤ b by omega)]); (first | (rw [hτ]; exact rn_stop hi0.1 (by omega) (by rw [← hτ]; assumption)) | (rw [hτ, show i = absI (b - a) + 1 by omega])))
          refine j_aload_n J dX3_planRun_67 rfl (lv_at hl 1 rfl) ?_
          refine xg_3_2 J hw lk_X3_27 dX3_planRun_68 ?_
          refine j_iload J dX3_planRun_71 (lv_at hl 7 rfl) ?_
          refine j_icmp_le J 80 (show rg (τ 18 11) by unfold rg; omega) (show rg (σ 18 11) by unfold rg; omega) dX3_planRun_73 (by decide) (fun (h_7 : (τ 18 11) ≤ (σ 18 11)) => ?_) (fun (h_7 : (σ 18 11) < (τ 18 11)) => ?_)
          · refine j_iconst J (0) dX3_planRun_80 ?_
            exact fin _ _ _ _ _ _ dX3_planRun_81 rfl (⟨by first | exact (if_pos (by rw [← hfin]; assumption)).symm | exact (if_neg (by rw [← hfin]; omega)).symm, hfin⟩) hw
          · refine j_iconst J (1) dX3_planRun_76 ?_
            refine j_goto J 81 dX3_planRun_77 (by decide) ?_
            exact fin _ _ _ _ _ _ dX3_planRun_81 rfl (⟨by first | exact (if_pos (by rw [← hfin]; assumption)).symm | exact (if_neg (by rw [← hfin]; omega)).symm, hfin⟩) hw
        · refine j_aload_n J dX3_planRun_38 rfl (lv_at hl 1 rfl) ?_
          refine xg_3_2 J hw lk_X3_27 dX3_planRun_39 ?_
          refine j_iload J dX3_planRun_42 (lv_at hl 5 rfl) ?_
          refine j_icmp_ge J 67 (show rg (τ 18 11) by unfold rg; omega) (show rg w by unfold rg; omega) dX3_planRun_44 (by decide) (fun (h_8 : w ≤ (τ 18 11)) => ?_) (fun (h_8 : (τ 18 11) < w) => ?_)
          · have hfin : τ = rnS σ a b w ov := by (unfold rnS; (first | rw [if_pos (show a ≤ b by omega)] | rw [if_neg (show ¬ a ≤ b by omega)]); (first | (rw [hτ]; exact rn_stop hi0.1 (by omega) (by rw [← hτ]; assumption)) | (rw [hτ, show i = absI (b - a) + 1 by omega])))
            refine j_aload_n J dX3_planRun_67 rfl (lv_at hl 1 rfl) ?_
            refine xg_3_2 J hw lk_X3_27 dX3_planRun_68 ?_
            refine j_iload J dX3_planRun_71 (lv_at hl 7 rfl) ?_
            refine j_icmp_le J 80 (show rg (τ 18 11) by unfold rg; omega) (show rg (σ 18 11) by unfold rg; omega) dX3_planRun_73 (by decide) (fun (h_9 : (τ 18 11) ≤ (σ 18 11)) => ?_) (fun (h_9 : (σ 18 11) < (τ 18 11)) => ?_)
            · refine j_iconst J (0) dX3_planRun_80 ?_
              exact fin _ _ _ _ _ _ dX3_planRun_81 rfl (⟨by first | exact (if_pos (by rw [← hfin]; assumption)).symm | exact (if_neg (by rw [← hfin]; omega)).symm, hfin⟩) hw
            · refine j_iconst J (1) dX3_planRun_76 ?_
              refine j_goto J 81 dX3_planRun_77 (by decide) ?_
              exact fin _ _ _ _ _ _ dX3_planRun_81 rfl (⟨by first | exact (if_pos (by rw [← hfin]; assumption)).symm | exact (if_neg (by rw [← hfin]; omega)).symm, hfin⟩) hw
          · refine j_aload_n J dX3_planRun_47 rfl (lv_at hl 1 rfl) ?_
            refine j_aload_n J dX3_planRun_48 rfl (lv_at hl 2 rfl) ?_
            refine j_iload_n J dX3_planRun_49 rfl (lv_at hl 3 rfl) ?_
            refine j_iload J dX3_planRun_50 (lv_at hl 0 rfl) ?_
            refine j_iload J dX3_planRun_52 (lv_at hl 8 rfl) ?_
            refine j_imul J dX3_planRun_54 ?_
            refine j_iadd J dX3_planRun_55 ?_
            refine j_iload J dX3_planRun_56 (lv_at hl 6 rfl) ?_
            refine k_X3_planCell (x := a + (i * 1)) (ov := ov) hD (hBt) (by omega) (ho) (by omega) (hf.2.2.1 _ (by omega) (by omega)) J hw hl.1 lk_X3_49 ⟨Nat.le_of_ble_eq_true rfl, Nat.le_of_ble_eq_true rfl⟩ (Nat.le_of_ble_eq_true rfl) dX3_planRun_58 (fun H locs hw => ?_)
            refine j_iinc J (lv' := [(9, .int (I (i + 1))), (0, .ref (ad 5)), (1, .ref (ad 1)), (2, .int (I a)), (3, .int (I b)), (4, .int (I w)), (5, .int (I ov)), (6, .int (I (σ 18 11))), (7, .int (I 1)), (8, .int (I (absI (b - a) + 1)))]) (k := 0) hl dX3_planRun_61 rfl (by decide) rfl (fun ls hl => ?_)
            refine j_goto J 31 dX3_planRun_64 (by decide) ?_
            exact ih31 (pcS τ ov (a + (i * 1))) (i + 1) (by omega) (by rw [hτ]; exact rn_step hi0.1 (by rw [← hτ]; assumption)) (by omega) _ _ _ hw (lv_sub hl [0, 1, 2, 3, 4, 5, 6, 7, 8, 9] rfl)
    exact L31 _ σ 0 (by have := absI_rng (z := b - a) (by omega); omega) (itI_0.symm) (Nat.lt_succ_self _) _ _ _ hw (lv_sub hl [0, 4, 5, 6, 7, 8, 9, 3, 2, 1] rfl)
theorem k_X3_planRun {p : Program} {l : Launch} {e : Env} {R : Room} {s : State} {m : MethodId} {args : Array Value} {below : List Frame} {meth : Method} {c : Code} {H : Heap} {locs : List Loc} {Q : State → Prop} {cc : ByteArray} {pc : Nat} {ls : Array Slot} {rest : List Value} {nL : Nat} {own : String} {D : va_G} {σ : St} {cI cZ : ClassId} {ad : Nat → Nat} {index : Nat} {a b w ov : Int} (hD : ∀ τ, va_D (AD ad 45) (wsX cI ad τ)) (hB : Bd σ) (hr : 0 ≤ σ 18 10 ∧ σ 18 10 < σ 18 1) (ho : 0 ≤ ov ∧ ov ≤ 50) (ha : 0 ≤ a ∧ a < σ 18 0) (hb : 0 ≤ b ∧ b < σ 18 0) (hw0 : 0 ≤ w ∧ w ≤ 200) (hp : ∀ x, 0 ≤ x → x < 12 → 0 ≤ σ 9 x ∧ σ 9 x ≤ 350) (hl0 : 0 ≤ σ 18 11 ∧ σ 18 11 ≤ 200) (J : Jx p m c cc nL s args own D [(cI, .int), (cZ, .boolean)] (AD ad 45) (wsX cI ad)) (hw : jW D (AD ad 45) s.heap (wsX cI ad σ) H locs) (hsz : ls.size = nL) (hlk : Cond.methodLink own index yX3_planRun ∈ TBw) (hR : 4 ≤ R.frames ∧ 98 ≤ R.locals) (hroom : (rest.map fun v => v.category).sum ≤ 8) (hdg : decode cc pc = .ok (.invokevirtual index, 3)) (kk : ∀ (H1 : Heap) (locs1 : List Loc), jW D (AD ad 45) s.heap (wsX cI ad (rnS σ a b w ov)) H1 locs1 → W p l e R s m args below meth c H1 locs1 0 0 Q (F0 m (pc + 3) ls (.int (I (if σ 18 11 < rnS σ a b w ov 18 11 then 1 else 0)) :: rest))) : W p l e R s m args below meth c H locs 0 0 Q (F0 m pc ls (.int (I ov) :: .int (I w) :: .int (I b) :: .int (I a) :: .ref (ad 1) :: .ref (ad 5) :: rest)) := 
  j_callVi J hw (c_X3_planRun  hD hB hr ho ha hb hw0 hp hl0) hlk in_X3_planRun se_X3_planRun ini_X3 co_X3_planRun (n := 5) (by decide +kernel) ⟨rfl, rfl, hR.1, hR.2⟩ (j := 5) (ci := 3) rfl rfl rfl rfl hroom hsz ⟨Nat.zero_le _, Nat.zero_le _⟩ rfl hdg (fun r τ H1 locs1 hp hw1 => by obtain ⟨rfl, rfl⟩ := hp; exact kk H1 locs1 hw1)
def rm_X3_plan : Room := { frames := 4, cells := 0, slots := 0, locals := 98 }
set_option maxHeartbeats 4000000 in
set_option maxRecDepth 100000 in
theorem c_X3_plan {l : Launch} {D : va_G} {cI cZ : ClassId} {ad : Nat → Nat} {σ : St} {row a b w ov : Int} (hD : ∀ τ, va_D (AD ad 45) (wsX cI ad τ)) (hB : Bd σ) (hr : 0 ≤ row ∧ row < σ 18 1) (ha : 0 ≤ a ∧ a < σ 18 0) (hb : 0 ≤ b ∧ b < σ 18 0) (hw0 : 0 ≤ w ∧ w ≤ 200) (ho : 0 ≤ ov ∧ ov ≤ 50) : JMv l yX3_plan cX3_plan 9 rm_X3_plan D [(cI, .int), (cZ, .boolean)] (AD ad 45) (wsX cI ad) [.ref (ad 5), .ref (ad 1), .int (I row), .int (I a), .int (I b), .int (I w), .int (I ov)] σ (fun τ => τ = rd (p0S σ row a) a b w ov 200) := by
  refine JMv.of RX3 (by decide +kernel) rfl (Nat.le_of_ble_eq_true rfl) hD ?_
  intro p e s m args below meth c Q J fin H ls hw hl
  generalize ([] : List Loc) = locs at hw ⊢
  have hl : lv_has ls 9 [(0, .ref (ad 5)), (1, .ref (ad 1)), (2, .int (I row)), (3, .int (I a)), (4, .int (I b)), (5, .int (I w)), (6, .int (I ov))] := hl
  have hd : Dim _ := hB.dim
  have hd1 := hd.1; have hd2 := hd.2.1; have hd3 := hd.2.2.1; have hd4 := hd.2.2.2; have hm := hd.mul
  refine j_aload_n J dX3_plan_0 rfl (lv_at hl 0 rfl) ?_
  refine xg_3_0 J hw lk_X3_14 dX3_plan_1 ?_
  refine j_iconst J (0) dX3_plan_4 ?_
  refine k_X2_fill (k := 9) (v := 0) hD (by decide) J hw hl.1 lk_X3_20 ⟨Nat.le_of_ble_eq_true rfl, Nat.le_of_ble_eq_true rfl⟩ (Nat.le_of_ble_eq_true rfl) dX3_plan_5 (fun H locs hw => ?_)
  refine j_aload_n J dX3_plan_8 rfl (lv_at hl 0 rfl) ?_
  refine j_iload_n J dX3_plan_9 rfl (lv_at hl 2 rfl) ?_
  refine xs_3_1 J hw lk_X3_23 dX3_plan_10 (fun H locs hw => ?_)
  refine j_aload_n J dX3_plan_13 rfl (lv_at hl 0 rfl) ?_
  refine j_iconst J (0) dX3_plan_14 ?_
  refine xs_3_2 J hw lk_X3_27 dX3_plan_15 (fun H locs hw => ?_)
  refine j_aload_n J dX3_plan_18 rfl (lv_at hl 0 rfl) ?_
  refine j_aload_n J dX3_plan_19 rfl (lv_at hl 1 rfl) ?_
  refine j_aload_n J dX3_plan_20 rfl (lv_at hl 0 rfl) ?_
  refine xg_3_1 J hw lk_X3_23 dX3_plan_21 ?_
  refine j_iload_n J dX3_plan_24 rfl (lv_at hl 3 rfl) ?_
  refine k_X1_number (row := row) (col := a) hD  J hw hl.1 lk_X3_30 ⟨Nat.le_of_ble_eq_true rfl, Nat.le_of_ble_eq_true rfl⟩ (Nat.le_of_ble_eq_true rfl) dX3_plan_25 (fun H locs hw => ?_)
  refine xs_3_3 J hw lk_X3_36 dX3_plan_28 (fun H locs hw => ?_)
  refine j_iconst J (1) dX3_plan_31 ?_
  refine j_istore J (lv' := [(7, .int (I 1)), (0, .ref (ad 5)), (1, .ref (ad 1)), (2, .int (I row)), (3, .int (I a)), (4, .int (I b)), (5, .int (I w)), (6, .int (I ov))]) hl dX3_plan_32 (by decide) rfl (fun ls hl => ?_)
  refine j_iconst J (0) dX3_plan_34 ?_
  refine j_istore J (lv' := [(8, .int (I 0)), (7, .int (I 1)), (0, .ref (ad 5)), (1, .ref (ad 1)), (2, .int (I row)), (3, .int (I a)), (4, .int (I b)), (5, .int (I w)), (6, .int (I ov))]) hl dX3_plan_35 (by decide) rfl (fun ls hl => ?_)
  have L37 : ∀ n : Nat, ∀ (τ : St) (dg : Int) (r : Int), (0 ≤ r ∧ r ≤ 200) → (dg = 0 ∨ dg = 1) → (τ = rd (p0S σ row a) a b w ov r) → (dg = 0 → rnS τ a b w ov = τ) → ((200 - r).toNat) < n → ∀ (H : Heap) (locs : List Loc) (ls : Array Slot), jW D (AD ad 45) s.heap (wsX cI ad τ) H locs → lv_has ls 9 [(8, .int (I r)), (0, .ref (ad 5)), (1, .ref (ad 1)), (2, .int (I row)), (3, .int (I a)), (4, .int (I b)), (5, .int (I w)), (6, .int (I ov)), (7, .int (I dg))] → W p l e rm_X3_plan s m args below meth c H locs 0 0 Q (F0 m 37 ls []) := by
    intro n
    induction n with
    | zero =>
      intro τ dg r hr0 hdg hτ hdz hm H locs ls hw hl
      exact absurd hm (Nat.not_lt_zero _)
    | succ n ih =>
      intro τ dg r hr0 hdg hτ hdz hm H locs ls hw hl
      have ih37 := ih
      have hf := rd_facts (σ := p0S σ row a) (a := a) (b := b) (w := w) (ov := ov) (n := r) (hB.eqp p0_eqp) ho hw0.2 (by omega) hr0.1 p0_hp (by show (0 : Int) ≤ 200; decide)
      rw [← hτ] at hf
      have hE := hf.1.tr p0_eqp
      have hBt := hB.eqp hE
      have q0 : τ 18 0 = σ 18 0 := hE 18 0 (pub_s (by decide))
      have q1 : τ 18 1 = σ 18 1 := hE 18 1 (pub_s (by decide))
      have q2 : τ 18 10 = row := hf.2.1
      have q3 : 0 ≤ τ 18 11 := hf.2.2.2.1
      have q4 := hf.2.2.2.2
      have hg := rnS_facts (a := a) (b := b) hBt ho hw0.2 (by omega) hf.2.2.1 q4
      refine j_iload J dX3_plan_37 (lv_at hl 0 rfl) ?_
      refine j_sipush J (200) dX3_plan_39 (by decide) ?_
      refine j_icmp_ge J 70 (show rg r by unfold rg; omega) (by unfold rg; omega) dX3_plan_42 (by decide) (fun (h_1 : 200 ≤ r) => ?_) (fun (h_1 : r < 200) => ?_)
      · exact fin _ _ _ _ _ dX3_plan_70 (by first | (rw [hτ, show r = 200 by omega]; done) | (rw [hτ]; exact rd_stop hr0.1 (by omega) (by rw [← hτ]; exact hdz (by assumption)))) hw
      · refine j_iload J dX3_plan_45 (lv_at hl 8 rfl) ?_
        refine j_if_eq J 70 (show rg dg by unfold rg; omega) dX3_plan_47 (by decide) (fun (h_2 : dg = 0) => ?_) (fun (h_2 : ¬ dg = 0) => ?_)
        · exact fin _ _ _ _ _ dX3_plan_70 (by first | (rw [hτ, show r = 200 by omega]; done) | (rw [hτ]; exact rd_stop hr0.1 (by omega) (by rw [← hτ]; exact hdz (by assumption)))) hw
        · refine j_aload_n J dX3_plan_50 rfl (lv_at hl 1 rfl) ?_
          refine j_aload_n J dX3_plan_51 rfl (lv_at hl 2 rfl) ?_
          refine j_iload_n J dX3_plan_52 rfl (lv_at hl 4 rfl) ?_
          refine j_iload J dX3_plan_53 (lv_at hl 5 rfl) ?_
          refine j_iload J dX3_plan_55 (lv_at hl 6 rfl) ?_
          refine j_iload J dX3_plan_57 (lv_at hl 7 rfl) ?_
          refine k_X3_planRun (a := a) (b := b) (w := w) (ov := ov) hD (hBt) (by omega) (ho) (by omega) (by omega) (by omega) (hf.2.2.1) (by omega) J hw hl.1 lk_X3_39 ⟨Nat.le_of_ble_eq_true rfl, Nat.le_of_ble_eq_true rfl⟩ (Nat.le_of_ble_eq_true rfl) dX3_plan_59 (fun H locs hw => ?_)
          refine j_istore J (lv' := [(7, .int (I (if τ 18 11 < rnS τ a b w ov 18 11 then 1 else 0))), (8, .int (I r)), (0, .ref (ad 5)), (1, .ref (ad 1)), (2, .int (I row)), (3, .int (I a)), (4, .int (I b)), (5, .int (I w)), (6, .int (I ov))]) hl dX3_plan_62 (by decide) rfl (fun ls hl => ?_)
          refine j_iinc J (lv' := [(8, .int (I (r + 1))), (7, .int (I (if τ 18 11 < rnS τ a b w ov 18 11 then 1 else 0))), (0, .ref (ad 5)), (1, .ref (ad 1)), (2, .int (I row)), (3, .int (I a)), (4, .int (I b)), (5, .int (I w)), (6, .int (I ov))]) (k := 1) hl dX3_plan_64 rfl (by decide) rfl (fun ls hl => ?_)
          refine j_goto J 37 dX3_plan_67 (by decide) ?_
          exact ih37 (rnS τ a b w ov) (if τ 18 11 < rnS τ a b w ov 18 11 then 1 else 0) (r + 1) (by omega) (by split <;> simp) (by rw [hτ]; exact rd_step hr0.1) (by intro hz; rcases hg.2.2.2.2.2 with e | e; (rw [e]; exact e); (rw [if_pos e] at hz; exact absurd hz (by decide))) (by omega) _ _ _ hw (lv_sub hl [0, 2, 3, 4, 5, 6, 7, 8, 1] rfl)
  exact L37 _ (st (st (st (fl σ 9 0 (lenX 9)) 18 10 row) 18 11 0) 18 12 (row * σ 18 0 + a)) 1 0 (by omega) (Or.inr rfl) (itI_0.symm) (fun h => absurd h (by decide)) (Nat.lt_succ_self _) _ _ _ hw (lv_sub hl [0, 2, 3, 4, 5, 6, 7, 8, 1] rfl)
theorem k_X3_plan {p : Program} {l : Launch} {e : Env} {R : Room} {s : State} {m : MethodId} {args : Array Value} {below : List Frame} {meth : Method} {c : Code} {H : Heap} {locs : List Loc} {Q : State → Prop} {cc : ByteArray} {pc : Nat} {ls : Array Slot} {rest : List Value} {nL : Nat} {own : String} {D : va_G} {σ : St} {cI cZ : ClassId} {ad : Nat → Nat} {index : Nat} {row a b w ov : Int} (hD : ∀ τ, va_D (AD ad 45) (wsX cI ad τ)) (hB : Bd σ) (hr : 0 ≤ row ∧ row < σ 18 1) (ha : 0 ≤ a ∧ a < σ 18 0) (hb : 0 ≤ b ∧ b < σ 18 0) (hw0 : 0 ≤ w ∧ w ≤ 200) (ho : 0 ≤ ov ∧ ov ≤ 50) (J : Jx p m c cc nL s args own D [(cI, .int), (cZ, .boolean)] (AD ad 45) (wsX cI ad)) (hw : jW D (AD ad 45) s.heap (wsX cI ad σ) H locs) (hsz : ls.size = nL) (hlk : Cond.methodLink own index yX3_plan ∈ TBw) (hR : 5 ≤ R.frames ∧ 126 ≤ R.locals) (hroom : (rest.map fun v => v.category).sum ≤ 8) (hdg : decode cc pc = .ok (.invokevirtual index, 3)) (kk : ∀ (H1 : Heap) (locs1 : List Loc), jW D (AD ad 45) s.heap (wsX cI ad (rd (p0S σ row a) a b w ov 200)) H1 locs1 → W p l e R s m args below meth c H1 locs1 0 0 Q (F0 m (pc + 3) ls rest)) : W p l e R s m args below meth c H locs 0 0 Q (F0 m pc ls (.int (I ov) :: .int (I w) :: .int (I b) :: .int (I a) :: .int (I row) :: .ref (ad 1) :: .ref (ad 5) :: rest)) := 
  j_callVv J hw (c_X3_plan  hD hB hr ha hb hw0 ho) hlk in_X3_plan se_X3_plan ini_X3 co_X3_plan (n := 6) (by decide +kernel) ⟨rfl, rfl, hR.1, hR.2⟩ (j := 5) (ci := 3) rfl rfl rfl rfl hroom hsz ⟨Nat.zero_le _, Nat.zero_le _⟩ rfl hdg (fun τ H1 locs1 hp hw1 => by subst hp; exact kk H1 locs1 hw1)
def rm_X3_digPlanned : Room := { frames := 2, cells := 0, slots := 0, locals := 45 }
set_option maxHeartbeats 4000000 in
set_option maxRecDepth 100000 in
theorem c_X3_digPlanned {l : Launch} {D : va_G} {cI cZ : ClassId} {ad : Nat → Nat} {σ : St}  (hD : ∀ τ, va_D (AD ad 45) (wsX cI ad τ)) (hd : Dim σ) (hr : 0 ≤ σ 18 10 ∧ σ 18 10 < σ 18 1) : JMv l yX3_digPlanned cX3_digPlanned 3 rm_X3_digPlanned D [(cI, .int), (cZ, .boolean)] (AD ad 45) (wsX cI ad) [.ref (ad 5), .ref (ad 1)] σ (fun τ => τ = dpS σ (σ 18 0)) := by
  refine JMv.of RX3 (by decide +kernel) rfl (Nat.le_of_ble_eq_true rfl) hD ?_
  intro p e s m args below meth c Q J fin H ls hw hl
  generalize ([] : List Loc) = locs at hw ⊢
  have hl : lv_has ls 3 [(0, .ref (ad 5)), (1, .ref (ad 1))] := hl
  have hd1 := hd.1; have hd2 := hd.2.1; have hd3 := hd.2.2.1; have hd4 := hd.2.2.2; have hm := hd.mul
  refine j_iconst J (0) dX3_digPlanned_0 ?_
  refine j_istore_n J (lv' := [(2, .int (I 0)), (0, .ref (ad 5)), (1, .ref (ad 1))]) hl dX3_digPlanned_1 rfl (by decide) rfl (fun ls hl => ?_)
  have L2 : ∀ n : Nat, ∀ (i : Int), (0 ≤ i ∧ i ≤ σ 18 0) → ((σ 18 0 - i).toNat) < n → ∀ (H : Heap) (locs : List Loc) (ls : Array Slot), jW D (AD ad 45) s.heap (wsX cI ad (dpS σ i)) H locs → lv_has ls 3 [(2, .int (I i)), (0, .ref (ad 5)), (1, .ref (ad 1))] → W p l e rm_X3_digPlanned s m args below meth c H locs 0 0 Q (F0 m 2 ls []) := by
    intro n
    induction n with
    | zero =>
      intro i hi0 hm H locs ls hw hl
      exact absurd hm (Nat.not_lt_zero _)
    | succ n ih =>
      intro i hi0 hm H locs ls hw hl
      have ih2 := ih
      refine j_iload_n J dX3_digPlanned_2 rfl (lv_at hl 0 rfl) ?_
      refine j_aload_n J dX3_digPlanned_3 rfl (lv_at hl 2 rfl) ?_
      refine xg_1_3 J hw lk_X3_63 dX3_digPlanned_4 ?_
      refine j_icmp_ge J 40 (show rg i by unfold rg; omega) (show rg (σ 18 0) by unfold rg; omega) dX3_digPlanned_7 (by decide) (fun (h_1 : (σ 18 0) ≤ i) => ?_) (fun (h_1 : i < (σ 18 0)) => ?_)
      · exact fin _ _ _ _ _ dX3_digPlanned_40 (by rw [show i = σ 18 0 by omega]) hw
      · refine j_aload_n J dX3_digPlanned_10 rfl (lv_at hl 2 rfl) ?_
        refine xg_1_0 J hw lk_X3_66 dX3_digPlanned_11 ?_
        refine j_aload_n J dX3_digPlanned_14 rfl (lv_at hl 2 rfl) ?_
        refine j_aload_n J dX3_digPlanned_15 rfl (lv_at hl 1 rfl) ?_
        refine xg_3_1 J hw lk_X3_23 dX3_digPlanned_16 ?_
        refine j_iload_n J dX3_digPlanned_19 rfl (lv_at hl 0 rfl) ?_
        refine k_X1_number (row := σ 18 10) (col := i) hD  J hw hl.1 lk_X3_30 ⟨Nat.le_of_ble_eq_true rfl, Nat.le_of_ble_eq_true rfl⟩ (Nat.le_of_ble_eq_true rfl) dX3_digPlanned_20 (fun H locs hw => ?_)
        refine j_aload_n J dX3_digPlanned_23 rfl (lv_at hl 1 rfl) ?_
        refine xg_3_0 J hw lk_X3_14 dX3_digPlanned_24 ?_
        refine j_iload_n J dX3_digPlanned_27 rfl (lv_at hl 0 rfl) ?_
        refine k_X2_get (k := 9) (i := i) hD (by decide) (show 0 ≤ i ∧ i < ((12 : Nat) : Int) from by omega) J hw hl.1 lk_X3_53 ⟨Nat.le_of_ble_eq_true rfl, Nat.le_of_ble_eq_true rfl⟩ (Nat.le_of_ble_eq_true rfl) dX3_digPlanned_28 (fun H locs hw => ?_)
        have hci := cell_in hr.1 hr.2 hi0.1 (show i < σ 18 0 by omega)
        refine k_X2_add (k := 1) (i := (σ 18 10) * σ 18 0 + i) (v := σ 9 i) hD (by decide) (show 0 ≤ (σ 18 10) * σ 18 0 + i ∧ ((σ 18 10) * σ 18 0 + i) < ((120 : Nat) : Int) from by omega) J hw hl.1 lk_X3_59 ⟨Nat.le_of_ble_eq_true rfl, Nat.le_of_ble_eq_true rfl⟩ (Nat.le_of_ble_eq_true rfl) dX3_digPlanned_31 (fun H locs hw => ?_)
        refine j_iinc J (lv' := [(2, .int (I (i + 1))), (0, .ref (ad 5)), (1, .ref (ad 1))]) (k := 0) hl dX3_digPlanned_34 rfl (by decide) rfl (fun ls hl => ?_)
        refine j_goto J 2 dX3_digPlanned_37 (by decide) ?_
        exact ih2 (i + 1) (by omega) (by omega) _ _ _ (by rw [← dpS_step hi0.1]; exact hw) (lv_sub hl [0, 1, 2] rfl)
  exact L2 _ 0 (by omega) (Nat.lt_succ_self _) _ _ _ (by rw [dpS_0]; exact hw) (lv_sub hl [0, 1, 2] rfl)
theorem k_X3_digPlanned {p : Program} {l : Launch} {e : Env} {R : Room} {s : State} {m : MethodId} {args : Array Value} {below : List Frame} {meth : Method} {c : Code} {H : Heap} {locs : List Loc} {Q : State → Prop} {cc : ByteArray} {pc : Nat} {ls : Array Slot} {rest : List Value} {nL : Nat} {own : String} {D : va_G} {σ : St} {cI cZ : ClassId} {ad : Nat → Nat} {index : Nat}  (hD : ∀ τ, va_D (AD ad 45) (wsX cI ad τ)) (hd : Dim σ) (hr : 0 ≤ σ 18 10 ∧ σ 18 10 < σ 18 1) (J : Jx p m c cc nL s args own D [(cI, .int), (cZ, .boolean)] (AD ad 45) (wsX cI ad)) (hw : jW D (AD ad 45) s.heap (wsX cI ad σ) H locs) (hsz : ls.size = nL) (hlk : Cond.methodLink own index yX3_digPlanned ∈ TBw) (hR : 3 ≤ R.frames ∧ 67 ≤ R.locals) (hroom : (rest.map fun v => v.category).sum ≤ 8) (hdg : decode cc pc = .ok (.invokevirtual index, 3)) (kk : ∀ (H1 : Heap) (locs1 : List Loc), jW D (AD ad 45) s.heap (wsX cI ad (dpS σ (σ 18 0))) H1 locs1 → W p l e R s m args below meth c H1 locs1 0 0 Q (F0 m (pc + 3) ls rest)) : W p l e R s m args below meth c H locs 0 0 Q (F0 m pc ls (.ref (ad 1) :: .ref (ad 5) :: rest)) := 
  j_callVv J hw (c_X3_digPlanned  hD hd hr) hlk in_X3_digPlanned se_X3_digPlanned ini_X3 co_X3_digPlanned (n := 1) (by decide +kernel) ⟨rfl, rfl, hR.1, hR.2⟩ (j := 5) (ci := 3) rfl rfl rfl rfl hroom hsz ⟨Nat.zero_le _, Nat.zero_le _⟩ rfl hdg (fun τ H1 locs1 hp hw1 => by subst hp; exact kk H1 locs1 hw1)
