/-! the numbers: an int of the machine, as a whole number -/
def I (z : Int) : Int32 := Int32.ofInt z
abbrev St : Type := Nat → Int → Int
def st (σ : St) (k : Nat) (i v : Int) : St := fun k' i' => if k' = k ∧ i' = i then v else σ k' i'
def rg (z : Int) : Prop := -2147483648 ≤ z ∧ z < 2147483648
theorem I_toInt {z : Int} (h : rg z) : (I z).toInt = z := by
  obtain ⟨h1, h2⟩ := h
  unfold I
  rw [Int32.toInt_ofInt]
  show Int.bmod z 4294967296 = z
  rw [Int.bmod_def]; split <;> omega
theorem I_of (x : Int32) : x = I x.toInt := by unfold I; exact Int32.ofInt_toInt x |>.symm
theorem rg_of (x : Int32) : rg x.toInt := ⟨Int32.le_toInt x, Int32.toInt_lt x⟩
theorem I_add (a b : Int) : I a + I b = I (a + b) := (Int32.ofInt_add a b).symm
theorem I_sub (a b : Int) : I a - I b = I (a - b) := (Int32.ofInt_sub a b).symm
theorem I_mul (a b : Int) : I a * I b = I (a * b) := (Int32.ofInt_mul a b).symm
theorem I_neg (a : Int) : - I a = I (-a) := (Int32.ofInt_neg a).symm
theorem I_eq {a b : Int} (ha : rg a) (hb : rg b) : I a = I b ↔ a = b := by
  constructor
  · intro h
    have := congrArg Int32.toInt h
    rwa [I_toInt ha, I_toInt hb] at this
  · rintro rfl; rfl
theorem I_lt {a b : Int} (ha : rg a) (hb : rg b) : I a < I b ↔ a < b := by
  rw [Int32.lt_iff_toInt_lt, I_toInt ha, I_toInt hb]
theorem I_le {a b : Int} (ha : rg a) (hb : rg b) : I a ≤ I b ↔ a ≤ b := by
  rw [Int32.le_iff_toInt_le, I_toInt ha, I_toInt hb]
theorem rg0 : rg 0 := by unfold rg; omega
theorem I_0 : I 0 = 0 := rfl
theorem I_div {a b : Int} (ha : 0 ≤ a) (ha2 : a < 2147483648) (hb : 0 < b) (hb2 : b < 2147483648) : I a / I b = I (a / b) := by
  have e : a / b = a.tdiv b := (Int.tdiv_eq_ediv_of_nonneg ha).symm
  have h : (I a / I b).toInt = (I (a / b)).toInt := by
    have h0 : 0 ≤ a / b := Int.ediv_nonneg ha (Int.le_of_lt hb)
    have h1 : a / b ≤ a := Int.ediv_le_self b ha
    rw [I_toInt (show rg (a / b) from ⟨by omega, by omega⟩), Int32.toInt_div, I_toInt (show rg a from ⟨by omega, by omega⟩), I_toInt (show rg b from ⟨by omega, by omega⟩), ← e]
    rw [Int.bmod_def]; split <;> omega
  exact Int32.toInt_inj.mp h
theorem I_rem {a b : Int} (ha : 0 ≤ a) (ha2 : a < 2147483648) (hb : 0 < b) (hb2 : b < 2147483648) : I a - I a / I b * I b = I (a % b) := by
  rw [I_div ha ha2 hb hb2, I_mul, I_sub]
  congr 1
  have := Int.emod_add_mul_ediv a b
  rw [Int.mul_comm] at this
  omega
theorem I_in {a : Int} {n : Nat} (h0 : 0 ≤ a) (h : a < n) (hn : n < 2147483648) : vp_in (I a) n := by
  rw [vp_in_iff, I_toInt ⟨by omega, by omega⟩]; exact ⟨h0, h⟩
theorem I_cl {a : Int} (h0 : 0 ≤ a) (h : a < 2147483648) : (((I a).toNatClampNeg : Nat) : Int) = a := by
  have e : (I a).toNatClampNeg = a.toNat := by
    rw [← Int32.toNat_toInt, I_toInt ⟨by omega, by omega⟩]
  rw [e]; omega
theorem I_upd (σ : St) (k : Nat) {a : Int} (h0 : 0 ≤ a) (h : a < 2147483648) (v : Int) : upd (fun q : Nat => I (σ k q)) (I a).toNatClampNeg (I v) = fun q : Nat => I (st σ k a v k q) := by
  funext q
  have e := I_cl h0 h
  by_cases hq : q = (I a).toNatClampNeg
  · rw [hq, pk_us]
    unfold st
    rw [e, if_pos ⟨rfl, rfl⟩]
  · rw [pk_un hq]
    unfold st
    rw [if_neg]
    rintro ⟨-, h2⟩
    exact hq (by omega)
theorem nI_I (n : Nat) : nI n = I (n : Int) := (Int32.ofInt_eq_ofNat (n := n)).symm
